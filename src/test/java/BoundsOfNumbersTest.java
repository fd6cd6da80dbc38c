/** The least and the greatest number that each call takes, and one beyond each: a test for each number of each call. */
public final class BoundsOfNumbersTest {
    private static final int NONE = Sentences.NONE, BAD = Sentences.BAD, HIGH = Sentences.HIGH;

    public static void main(String[] names) {
        Sentences.run(BoundsOfNumbersTest.class, names);
    }

    private static void takes(int least, long atLeast, int greatest, long atGreatest, Sentences.CallOf call) {
        Sentences.takes(BoundsOfNumbersTest::three, least, atLeast, greatest, atGreatest, BAD, call);
    }

    /** Three goers: one goes by both ladders, one along the floor to 1, past the third, who stays at 2; two windows. */
    private static IronStairs three() {
        return Sentences.told("back;ladder 0;ladder 5;goer 1 0 9;goer 2 3 1;goer 0 2 2;window 0 1;window 4 6;");
    }

    private static void takesGoers(long refusal, Sentences.CallOf call) {
        Sentences.takesThose(IronStairs::new, -1, refusal, call);
        Sentences.takesThose(BoundsOfNumbersTest::three, 2, refusal, call);
        Sentences.takesThose(Sentences::full, 5, refusal, call);
    }

    /** The first of two: the second one is none of those that are tried and there. */
    private static void takesFirstGoers(long refusal, Sentences.CallOf call) {
        Sentences.takesThose(BoundsOfNumbersTest::three, 2, refusal, call);
        Sentences.takesThose(Sentences::full, 5, refusal, call);
    }

    private static void takesLadders(Sentences.CallOf call) {
        Sentences.takesThose(IronStairs::new, -1, BAD, call);
        Sentences.takesThose(BoundsOfNumbersTest::three, 1, BAD, call);
        Sentences.takesThose(Sentences::full, 5, BAD, call);
    }

    private static void takesWindows(Sentences.CallOf call) {
        Sentences.takesThose(IronStairs::new, -1, BAD, call);
        Sentences.takesThose(BoundsOfNumbersTest::three, 1, BAD, call);
        Sentences.takesThose(Sentences::full, 3, BAD, call);
    }

    // ---- a back

    @Sentences.Holds("Terms: LADDERS .. of a CELL (0 .. 15)")
    private static void ladderTakesCells() {
        Sentences.takes(IronStairs::new, 0, 0, 15, 0, BAD, (x, n) -> x.ladder(n));
    }

    @Sentences.Holds("Terms: KINDS of GOERS 0 .. 5, at goer")
    private static void goerTakesKinds() {
        takes(0, 3, 5, 3, (x, n) -> x.goer(n, 7, 8));
    }

    @Sentences.Holds("Terms: a HOME, a WANT (CELLS; 0 .. 19): the HOME, at goer")
    private static void goerTakesHomes() {
        takes(0, 3, 19, 3, (x, n) -> x.goer(1, n, 8));
    }

    @Sentences.Holds("Terms: a HOME, a WANT (CELLS; 0 .. 19): the WANT, at goer")
    private static void goerTakesWants() {
        takes(0, 3, 19, 3, (x, n) -> x.goer(1, 7, n));
    }

    @Sentences.Holds("Terms: KINDS of WINDOWS 0 .. 5, at window")
    private static void windowTakesKinds() {
        takes(0, 2, 5, 2, (x, n) -> x.window(n, 8));
    }

    @Sentences.Holds("Terms: WINDOWS .. a KIND, a CELL (0 .. 19): the CELL, at window")
    private static void windowTakesCells() {
        takes(0, 2, 19, 2, (x, n) -> x.window(1, n));
    }

    @Sentences.Holds("Promise 6: A byte (0 .. 127)")
    private static void typeTakesBytes() {
        Sentences.takes(IronStairs::new, 0, 1, 127, 1, BAD, (x, n) -> x.type(n));
    }

    // ---- minutes

    @Sentences.Holds("Promise 9: n MINUTES go by (1 .. 60")
    private static void minutesTakes1To60() {
        takes(1, 2, 60, 5, (x, n) -> x.minutes(n));
        takes(1, 1, 60, 60, (x, n) -> x.minutes(n) < 0 ? BAD : x.count(3));
    }

    @Sentences.Holds("Promise 10: A GOER turns .. BAD: of those who are there")
    private static void turnsTakesGoers() {
        takesGoers(BAD, (x, n) -> x.turns(n));
    }

    @Sentences.Holds("Promise 11: A LADDER is drawn up .. BAD: of those that are there")
    private static void drawsTakesLadders() {
        takesLadders((x, n) -> x.draws(n));
    }

    @Sentences.Holds("Promise 13: Of a GOER .. BAD: of those who are there")
    private static void ofTakesGoers() {
        takesGoers(BAD, (x, n) -> x.of(n, 3));
    }

    @Sentences.Holds("Promise 13: KIND (0) .. LOUD (6). BAD")
    private static void ofTakesWhat0To6() {
        takes(0, 1, 6, 3, (x, n) -> x.of(0, n));
    }

    @Sentences.Holds("Promise 14: Of a WINDOW .. BAD: of those that are there")
    private static void aboutTakesWindows() {
        takesWindows((x, n) -> x.about(n, 1));
    }

    @Sentences.Holds("Promise 14: KIND (0), CELL (1), HEARS (2; bits). BAD")
    private static void aboutTakesWhat0To2() {
        takes(0, 4, 2, 1, (x, n) -> x.about(1, n));
    }

    @Sentences.Holds("Promise 15: Of a LADDER .. BAD: of those that are there")
    private static void rungsTakesLadders() {
        takesLadders((x, n) -> x.rungs(n, 0));
    }

    @Sentences.Holds("Promise 15: its CELL (0), whether it is down (1; 1, 0). BAD")
    private static void rungsTakesWhat0To1() {
        takes(0, 5, 1, 1, (x, n) -> x.rungs(1, n));
    }

    // ---- ways

    @Sentences.Holds("Promise 16: FAR .. BAD: from a CELL (0 .. 19)")
    private static void farTakesCellsFrom() {
        takes(0, NONE, 19, 3, (x, n) -> x.far(n, 16));
    }

    @Sentences.Holds("Promise 16: FAR .. BAD: to a CELL (0 .. 19)")
    private static void farTakesCellsTo() {
        takes(0, NONE, 19, 3, (x, n) -> x.far(16, n));
    }

    @Sentences.Holds("Promise 17: WHERE .. BAD: a GOER who is there")
    private static void whereTakesGoers() {
        takesGoers(BAD, (x, n) -> x.where(n, 0));
    }

    @Sentences.Holds("Terms: WHERE a GOER is behind m (0 .. 60) MINUTES")
    private static void whereTakesMinutes0To60() {
        takes(0, 0, 60, 9, (x, n) -> x.where(0, n));
    }

    @Sentences.Holds("Promise 18: MEET .. BAD: the first GOER is there")
    private static void meetTakesFirstGoers() {
        takesFirstGoers(BAD, (x, n) -> x.meet(n, 1));
    }

    @Sentences.Holds("Promise 18: MEET .. BAD: the second GOER is there")
    private static void meetTakesSecondGoers() {
        takesFirstGoers(BAD, (x, n) -> x.meet(1, n));
    }

    @Sentences.Holds("Promise 18: BAD: alike, too")
    private static void meetTakesUnlikeOnes() {
        notAlike(BAD, (x, n) -> x.meet(n, n));
    }

    @Sentences.Holds("Promise 19: WAIT .. BAD: the first GOER is there")
    private static void waitsTakesFirstGoers() {
        takesFirstGoers(BAD, (x, n) -> x.waits(n, 1, 1));
    }

    @Sentences.Holds("Promise 19: WAIT .. BAD: the second GOER is there")
    private static void waitsTakesSecondGoers() {
        takesFirstGoers(BAD, (x, n) -> x.waits(1, n, 1));
    }

    @Sentences.Holds("Promise 19: BAD: alike, too")
    private static void waitsTakesUnlikeOnes() {
        notAlike(BAD, (x, n) -> x.waits(n, n, 1));
    }

    @Sentences.Holds("Promise 19: so that both are (1) or never are (0) in one CELL .. BAD")
    private static void waitsTakesMeet0To1() {
        takes(0, NONE, 1, 0, (x, n) -> x.waits(2, 1, n));
    }

    @Sentences.Holds("Promise 20: the most (0 ..), who has no WAY (1; bits). BAD")
    private static void downTakesWhat0To1() {
        Sentences.takes(() -> Sentences.told("back;ladder 0;goer 0 5 5;goer 0 19 19;"), 0, 2, 1, 2, BAD, (x, n) -> x.down(n));
    }

    @Sentences.Holds("Promise 21: which (0), how many (1) .. BAD")
    private static void cutTakesWhat0To1() {
        Sentences.takes(() -> Sentences.told("back;ladder 0;goer 0 5 5;goer 0 19 19;"), 0, 0, 1, 2, BAD, (x, n) -> x.cut(n));
    }

    @Sentences.Holds("Promise 22: how much (i = NONE), to whose HOME one goes .. BAD: -10")
    private static void doorsTakesNoneAndGoers() {
        Sentences.takes(IronStairs::new, NONE, 0, NONE, 0, -10, (x, n) -> x.doors(n));
        Sentences.takes(BoundsOfNumbersTest::three, NONE, 0, 2, 2, -10, (x, n) -> x.doors(n));
        Sentences.takes(Sentences::full, NONE, 0, 5, 5, -10, (x, n) -> x.doors(n));
    }

    // ---- who it was

    @Sentences.Holds("Terms: SOUNDS .. at a WINDOW (that is there)")
    private static void soundTakesWindows() {
        takesWindows((x, n) -> x.sound(n, 0, 1));
    }

    @Sentences.Holds("Terms: SOUNDS .. behind m (0 .. 30) MINUTES")
    private static void soundTakesMinutes0To30() {
        takes(0, 1, 30, 1, (x, n) -> x.sound(0, n, 1));
    }

    @Sentences.Holds("Terms: SOUNDS .. a step so loud (x 1 .. 20)")
    private static void soundTakesLoud1To20() {
        takes(1, 1, 20, 1, (x, n) -> x.sound(0, 0, n));
    }

    @Sentences.Holds("Terms: NOTES .. a GOER's step (who is there)")
    private static void noteTakesGoers() {
        takesGoers(BAD, (x, n) -> x.note(n, 0, 0, 0));
    }

    @Sentences.Holds("Terms: NOTES .. on FLOOR f (0 .. 4)")
    private static void noteTakesFloors0To4() {
        takes(0, 1, 4, 1, (x, n) -> x.note(0, n, 0, 0));
    }

    @Sentences.Holds("Terms: NOTES .. in MINUTE m (0 .. 99)")
    private static void noteTakesMinutes0To99() {
        takes(0, 1, 99, 1, (x, n) -> x.note(0, 0, n, 0));
    }

    @Sentences.Holds("Terms: NOTES .. was x (0 .. 20) loud")
    private static void noteTakesLoud0To20() {
        takes(0, 1, 20, 1, (x, n) -> x.note(0, 0, 0, n));
    }

    @Sentences.Holds("Terms: MARKS .. a WINDOW (that is there)")
    private static void markTakesWindows() {
        takesWindows((x, n) -> x.mark(n, 0, 0, 0));
    }

    @Sentences.Holds("Terms: MARKS .. a step x (0 .. 20) loud")
    private static void markTakesLoud0To20() {
        takes(0, 1, 20, 1, (x, n) -> x.mark(0, n, 0, 0));
    }

    @Sentences.Holds("Terms: MARKS .. d (0 .. 7) far")
    private static void markTakesFar0To7() {
        takes(0, 1, 7, 1, (x, n) -> x.mark(0, 0, n, 0));
    }

    @Sentences.Holds("Terms: MARKS .. HEARD (1) or not (0)")
    private static void markTakesHeard0To1() {
        takes(0, 1, 1, 1, (x, n) -> x.mark(0, 0, 0, n));
    }

    @Sentences.Holds("Promise 27: No SOUNDS (0), NOTES (1), MARKS (2) .. BAD")
    private static void forgetTakesWhat0To2() {
        Sentences.takes(() -> {
            IronStairs x = three();
            x.sound(0, 0, 1);
            for (int k = 0; k < 2; k++) x.note(0, 0, 0, 0);
            for (int k = 0; k < 3; k++) x.mark(0, 0, 0, 0);
            return x;
        }, 0, 1, 2, 3, BAD, (x, n) -> x.forget(n));
    }

    @Sentences.Holds("Promise 28: IS .. BAD: a GOER who is there")
    private static void isTakesGoers() {
        takesGoers(BAD, (x, n) -> x.is(n));
    }

    @Sentences.Holds("Promise 29: LOOK .. BAD: a GOER who is there")
    private static void lookTakesGoers() {
        takesGoers(BAD, (x, n) -> x.look(n));
    }

    @Sentences.Holds("Promise 30: WHAT .. BAD: a WINDOW that is there")
    private static void kindsTakesWindows() {
        takesWindows((x, n) -> x.kinds(n));
    }

    @Sentences.Holds("Promise 31: ASK .. BAD: a WINDOW that is there")
    private static void askTakesWindows() {
        takesWindows((x, n) -> x.ask(n));
    }

    @Sentences.Holds("Promise 32: BAD: -10: the first GOER is there")
    private static void shyTakesFirstGoers() {
        takesFirstGoers(-10, (x, n) -> x.shy(n, 1, NONE));
    }

    @Sentences.Holds("Promise 32: BAD: -10: the second GOER is there")
    private static void shyTakesSecondGoers() {
        takesFirstGoers(-10, (x, n) -> x.shy(1, n, NONE));
    }

    @Sentences.Holds("Promise 32: BAD: -10: alike a, b .. too")
    private static void shyTakesUnlikeOnes() {
        notAlike(-10, (x, n) -> x.shy(n, n, NONE));
    }

    @Sentences.Holds("Promise 32: BAD: -10: .. k below -1, too")
    private static void shyTakesNoneAndMore() {
        Sentences.takes(BoundsOfNumbersTest::three, NONE, 9, HIGH, -5, -10, (x, n) -> x.shy(0, 1, n));
    }

    @Sentences.Holds("Terms: ODDS .. from CELL a (0 .. 19)")
    private static void oddsTakesCellsFrom() {
        takes(0, 1, 19, 1, (x, n) -> x.odds(n, 0, 5));
    }

    @Sentences.Holds("Terms: ODDS .. to b (0 .. 19)")
    private static void oddsTakesCellsTo() {
        takes(0, 1, 19, 1, (x, n) -> x.odds(0, n, 5));
    }

    @Sentences.Holds("Terms: ODDS: by c of 10 (0 .. 10)")
    private static void oddsTakes0To10() {
        takes(0, 1, 10, 1, (x, n) -> x.odds(0, 4, n));
    }

    @Sentences.Holds("Terms: NIGHTS by a SEED (0 .. 999999)")
    private static void nightsTakesSeeds() {
        takes(0, 0, 999999, 0, (x, n) -> x.nights(n, 0));
    }

    @Sentences.Holds("Terms: NIGHTS .. n (0 .. 60) MINUTES")
    private static void nightsTakesMinutes0To60() {
        takes(0, 0, 60, 60, (x, n) -> {
            int heard = x.nights(5, n);
            return heard <= 0 ? heard : n;
        });
    }

    // ---- what there is

    @Sentences.Holds("Promise 35: THE FRACTION: above (0), below (1). BAD")
    private static void partTakesWhat0To1() {
        takes(0, 0, 1, 1, (x, n) -> x.part(n));
    }

    @Sentences.Holds("Terms: IMAGES 0, 1 keep")
    private static void imageTakes0To1() {
        takes(0, 1, 1, 1, (x, n) -> x.image(n));
    }

    @Sentences.Holds("Terms: IMAGES 0, 1 .. it goes on from one")
    private static void fromTakes0To1() {
        Sentences.takes(() -> {
            IronStairs x = three();
            x.image(0);
            x.image(1);
            return x;
        }, 0, 1, 1, 1, BAD, (x, n) -> x.from(n));
    }

    @Sentences.Holds("Promise 38: BAD (0), NO (1), FULL (2). -1: another what (counts as BAD)")
    private static void statusTakesWhat0To2() {
        Sentences.takes(BoundsOfNumbersTest::three, 0, 0, 2, 0, -1, (x, n) -> x.status(n));
    }

    @Sentences.Holds("Promise 39: How many: 0 GOERS, .. 9 bytes of THE TEXT. BAD")
    private static void countTakesWhat0To9() {
        takes(0, 3, 9, 78, (x, n) -> x.count(n));
    }

    private static void notAlike(long refusal, Sentences.CallOf call) {
        for (int i = 0; i < 6; i++) {
            IronStairs x = Sentences.full();
            Sentences.due("of " + i + " and " + i, call.of(x, i), refusal);
            Sentences.refusals("of " + i + " and " + i, x, 1, 0, 0);
        }
    }
}
