/** The first MINUTE, the last one and those beyond it; who goes in one and who stays; what may be undone and what not. */
public final class BoundsOfMinutesTest {
    private static final int NONE = Sentences.NONE, BAD = Sentences.BAD, NO = Sentences.NO, FULL = Sentences.FULL;
    private static final int COOK = 5;

    public static void main(String[] names) {
        Sentences.run(BoundsOfMinutesTest.class, names);
    }

    private static void due(String call, long got, long want) {
        Sentences.due(call, got, want);
    }

    /** Goes on to a MINUTE in steps of 60 and one of what is left over. */
    private static void goTo(IronStairs x, int minute) {
        for (int n = x.count(3) / 60; n < minute / 60; n++) x.minutes(60);
        if (x.count(3) < minute) x.minutes(minute - x.count(3));
        due("the MINUTE", x.count(3), minute);
    }

    /** At that MINUTE goers and windows come, so that they have all their ways ahead of them. */
    private static IronStairs at(int minute, int... kindHomeWant) {
        IronStairs x = new IronStairs();
        goTo(x, minute);
        for (int i = 0; i + 2 < kindHomeWant.length; i += 3) x.goer(kindHomeWant[i], kindHomeWant[i + 1], kindHomeWant[i + 2]);
        return x;
    }

    // ---- the first and the last minute

    @Sentences.Holds("Terms: MINUTES have numbers, 0 at first")
    private static void minuteAtFirst() {
        IronStairs x = new IronStairs();
        due("the MINUTE", x.count(3), 0);
        x.minutes(1);
        due("the next", x.count(3), 1);
        x.back();
        due("behind back()", x.count(3), 0);
    }

    @Sentences.Holds("Terms: MINUTES have numbers .. (9999 at most)")
    private static void minuteAtMost9999() {
        IronStairs x = at(9960);
        x.minutes(38);
        due("the last but one", x.count(3), 9998);
        x.minutes(1);
        due("the last", x.count(3), 9999);
        x.minutes(60);
        due("still the last", x.count(3), 9999);
        x = at(9960);
        x.minutes(60);
        due("the last, 39 of 60", x.count(3), 9999);
        Sentences.refusals("up to the last", x, 0, 0, 0);
    }

    @Sentences.Holds("Promise 9: at 9999 none goes by")
    private static void noneGoesByAt9999() {
        IronStairs x = at(9999, 0, 0, 3);
        due("minutes(1)", x.minutes(1), 0);
        due("minutes(60)", x.minutes(60), 0);
        due("where", x.of(0, 3), 0);
        due("the MINUTE", x.count(3), 9999);
        Sentences.refusals("at 9999", x, 0, 0, 0);
    }

    @Sentences.Holds("Promise 9: at 9999 none goes by: how many steps were made (up to it)")
    private static void stepsUpTo9999() {
        IronStairs x = at(9997, 0, 0, 3, 1, 4, 7);
        due("minutes(60)", x.minutes(60), 4);
        due("where", x.of(0, 3), 2);
        x = at(9998, 0, 0, 3);
        due("minutes(2)", x.minutes(2), 1);
        due("where", x.of(0, 3), 1);
    }

    @Sentences.Holds("Promise 9: how many steps were made (none: nobody, all there, no WAY)")
    private static void noStepsAtAll() {
        IronStairs x = new IronStairs();
        due("nobody", x.minutes(1), 0);
        due("the MINUTE", x.count(3), 1);
        x = Sentences.goers(0, 5, 5, 0, 0, 4);
        due("there, and no WAY", x.minutes(60), 0);
        due("the MINUTE", x.count(3), 60);
        Sentences.refusals("no steps", x, 0, 0, 0);
    }

    @Sentences.Holds("Promise 9: n MINUTES go by (.. together one that may be undone")
    private static void minutesAreOneToUndo() {
        IronStairs x = Sentences.goers(0, 0, 3);
        x.minutes(60);
        due("count(8)", x.count(8), 1);
        due("undo()", x.undo(), 0);
        due("where", x.of(0, 3), 0);
        due("undo() again", x.undo(), NO);
    }

    @Sentences.Holds("Promise 9: .. one that may be undone, also if none goes by")
    private static void undoneAlsoIfNoneGoesBy() {
        IronStairs x = at(9999, 0, 0, 3);
        due("count(8) behind a GOER", x.count(8), 0);
        x.minutes(5);
        due("count(8)", x.count(8), 1);
        due("undo()", x.undo(), 9999);
        due("undo() again", x.undo(), NO);
        for (int n = 0; n < 9; n++) x.minutes(60);
        due("count(8)", x.count(8), 8);
        for (int n = 0; n < 8; n++) due("undo()", x.undo(), 9999);
        due("undo() again", x.undo(), NO);
    }

    @Sentences.Holds("Promise 12: UNDO: the MINUTE then (back from the last one)")
    private static void undoFrom9999() {
        IronStairs x = at(9960, 0, 0, 3);
        x.minutes(60);
        x.minutes(60);
        due("of none", x.undo(), 9999);
        due("where", x.of(0, 3), 3);
        due("of 39", x.undo(), 9960);
        due("where", x.of(0, 3), 0);
        due("the MINUTE", x.count(3), 9960);
        due("and on again", x.minutes(39), 3);
        due("the MINUTE", x.count(3), 9999);
    }

    @Sentences.Holds("Promises 10, 11: turning and drawing at 9999")
    private static void turningAndDrawingAt9999() {
        IronStairs x = at(9998);
        x.ladder(0);
        x.goer(0, 0, 4);
        x.minutes(1);
        due("turns(0)", x.turns(0), 1);
        due("draws(0)", x.draws(0), 0);
        due("NEXT: no WAY", x.of(0, 5), 4);
        due("draws(0)", x.draws(0), 1);
        due("NEXT", x.of(0, 5), 0);
        for (int n = 0; n < 3; n++) due("undo()", x.undo(), 9999);
        due("OUT", x.of(0, 4), 0);
        due("undo() of the MINUTE", x.undo(), 9998);
    }

    // ---- beyond the last minute

    @Sentences.Holds("Terms: MINUTES go beyond 9999 in them: WHERE")
    private static void whereBeyond9999() {
        IronStairs x = at(9999, 0, 0, 3);
        for (int m = 0; m <= 4; m++) due("where(0, " + m + ")", x.where(0, m), Math.min(m, 3));
        due("where(0, 60)", x.where(0, 60), 3);
        due("the MINUTE stays", x.count(3), 9999);
    }

    @Sentences.Holds("Terms: MINUTES go beyond 9999 in them: NEXT")
    private static void nextBeyond9999() {
        due("NEXT", at(9999, 0, 0, 3).of(0, 5), 1);
    }

    @Sentences.Holds("Terms: LOUD: how loud one's step in this MINUTE is (the last but one, the last)")
    private static void loudAt9999() {
        due("COOK at 9998", at(9998, COOK, 0, 3).of(0, 6), 3);
        due("COOK at 9999", at(9999, COOK, 0, 3).of(0, 6), 2);
        due("CHILD at 9998", at(9998, 2, 0, 3).of(0, 6), 0);
        due("CHILD at 9999", at(9999, 2, 0, 3).of(0, 6), 1);
    }

    @Sentences.Holds("Terms: MINUTES go beyond 9999 in them: HEARS")
    private static void hearsAt9999() {
        IronStairs x = at(9999, COOK, 0, 3, 2, 0, 3);
        x.window(0, 1);
        x.window(0, 2);
        due("2 loud, 1 far; 1 loud, 1 far", x.about(0, 2), 1);
        due("2 loud, 2 far", x.about(1, 2), 0);
    }

    @Sentences.Holds("Terms: MINUTES go beyond 9999 in them: MEET")
    private static void meetBeyond9999() {
        due("meet(0, 1)", at(9999, 0, 0, 2, 0, 2, 0).meet(0, 1), 1);
        due("meet(0, 1)", at(9999, 0, 0, 3, 0, 3, 3).meet(0, 1), 3);
    }

    @Sentences.Holds("Terms: MINUTES go beyond 9999 in them: WAIT")
    private static void waitsBeyond9999() {
        due("waits(0, 1, 1)", at(9999, 0, 0, 3, 0, 3, 0).waits(0, 1, 1), 1);
        due("waits(0, 1, 0)", at(9999, 0, 0, 2, 0, 2, 0).waits(0, 1, 0), 1);
    }

    @Sentences.Holds("Terms: MINUTES go beyond 9999 in them: DOWN")
    private static void downAt9999() {
        IronStairs x = at(9999, 0, 9, 9);
        x.ladder(0);
        x.ladder(4);
        due("down(0)", x.down(0), 3);
    }

    @Sentences.Holds("Terms: MINUTES go beyond 9999 in them: WHO")
    private static void whoBeyond9999() {
        IronStairs x = at(9998, COOK, 0, 3);
        x.window(4, 1);
        int[] loud = {3, 2, 3};
        for (int m = 0; m < 3; m++) {
            for (int l = 2; l <= 3; l++) {
                x.forget(0);
                x.sound(0, m, l);
                due("who() of " + l + " loud behind " + m, x.who(), l == loud[m] ? 1 : 0);
            }
        }
        x.minutes(1);
        x.forget(0);
        x.sound(0, 1, 3);
        due("who() from 9999 on", x.who(), 1);
    }

    @Sentences.Holds("Terms: MINUTES go beyond 9999 in them: SHY")
    private static void shyBeyond9999() {
        // past one another or not, by their stays: whoever loses by it takes another stay
        due("shy(0, 1, NONE)", at(9999, 0, 0, 3, 0, 3, 0).shy(0, 1, NONE), 0);
    }

    @Sentences.Holds("Terms: MINUTES go beyond 9999 in them: NIGHTS")
    private static void nightsBeyond9999() {
        // by SEED 8 the GOERS are 4 2 2 1 4 5 3 4 3 1: 0, who is there alone, goes from 0 to 3
        IronStairs x = at(9999, COOK, 0, 3);
        x.window(4, 0);
        due("three steps in ten MINUTES", x.nights(8, 10), 3);
        x = at(9999, COOK, 0, 3);
        x.window(0, 9);
        due("2 loud 3 far, 3 loud 2 far, 2 loud 3 far", x.nights(8, 10), 1);
        due("the MINUTE stays", x.count(3), 9999);
    }

    @Sentences.Holds("Terms: Nothing is changed by these")
    private static void questionsChangeNothing() {
        Sentences.Call[] questions = {x -> x.far(0, 9), x -> x.where(0, 60), x -> x.of(0, 5), x -> x.of(0, 6), x -> x.about(0, 2),
            x -> x.meet(0, 1), x -> x.waits(0, 1, 1), x -> x.waits(1, 0, 0), x -> x.down(0), x -> x.down(1), x -> x.cut(0),
            x -> x.cut(1), x -> x.doors(NONE), x -> x.doors(1), x -> x.who(), x -> x.is(0), x -> x.look(0), x -> x.kinds(0),
            x -> x.ask(0), x -> x.shy(0, 1, NONE), x -> x.shy(1, 0, 0), x -> x.nights(999999, 60), x -> x.nights(0, 1)};
        for (int q = 0; q < questions.length; q++) {
            IronStairs x = Sentences.told("back;ladder 0;ladder 5;draw 1;goer 5 0 9;goer 2 7 1;window 3 5;");
            x.sound(0, 1, 3);
            x.note(0, 1, 2, 3);
            x.mark(0, 1, 2, 1);
            x.odds(0, 4, 3);
            x.minutes(1);
            x.turns(1);
            x.draws(1);
            long h = x.digest();
            questions[q].of(x);
            due("digest() behind question " + q, x.digest(), h);
            Sentences.refusals("behind question " + q, x, 0, 0, 0);
            for (int minute : new int[] {1, 1, 0}) due("undo() behind question " + q, x.undo(), minute);
            due("as told behind question " + q, x.of(1, 3), 7);
        }
    }

    // ---- a minute

    @Sentences.Holds("Terms: A MINUTE: each GOER who is not where he goes to takes one step")
    private static void oneStepAMinute() {
        IronStairs x = Sentences.goers(0, 0, 3, 0, 9, 9, 0, 6, 4);
        due("minutes(1)", x.minutes(1), 2);
        due("where 0", x.of(0, 3), 1);
        due("who is there stays", x.of(1, 3), 9);
        due("where 2", x.of(2, 3), 5);
        due("minutes(2)", x.minutes(2), 3);
        due("where 0", x.of(0, 3), 3);
        due("where 2", x.of(2, 3), 4);
        due("count(4)", x.count(4), 3);
    }

    @Sentences.Holds("Terms: A MINUTE: .. to the WANT (OUT), or HOME again (BACK)")
    private static void outAndBack() {
        IronStairs x = Sentences.goers(0, 0, 3);
        x.minutes(60);
        due("there, OUT", x.count(4), 1);
        x.turns(0);
        due("not there, BACK", x.count(4), 0);
        due("minutes(60)", x.minutes(60), 3);
        due("where", x.of(0, 3), 0);
        due("there, BACK", x.count(4), 1);
    }

    @Sentences.Holds("Terms: A MINUTE: .. by LADDERS as they are; who has no WAY stays")
    private static void whoHasNoWayStays() {
        IronStairs x = Sentences.told("back;ladder 0;goer 0 1 5;draw 0;");
        due("no WAY", x.minutes(3), 0);
        due("he stays", x.of(0, 3), 1);
        due("NEXT", x.of(0, 5), 1);
        due("LOUD", x.of(0, 6), 0);
        due("the MINUTES go by", x.count(3), 3);
        x.draws(0);
        due("let down", x.minutes(60), 3);
        due("he goes", x.of(0, 3), 5);
        x.turns(0);
        x.minutes(1);
        x.draws(0);
        due("cut off on his WAY", x.minutes(60), 0);
        due("he stays", x.of(0, 3), 4);
    }

    @Sentences.Holds("Terms: A MINUTE: .. on a shortest WAY there (of CELLS that lead on the least)")
    private static void leastCellLeadsOn() {
        String all = "back;ladder 0;ladder 1;ladder 4;ladder 5;";
        due("right or up", Sentences.told(all + "goer 0 0 5;").of(0, 5), 1);
        due("left or up", Sentences.told(all + "goer 0 1 4;").of(0, 5), 0);
        due("down or right", Sentences.told(all + "goer 0 4 1;").of(0, 5), 0);
        due("down or left", Sentences.told(all + "goer 0 5 0;").of(0, 5), 1);
        due("up alone", Sentences.told(all + "goer 0 5 9;").of(0, 5), 9);
        due("a longer WAY is none, though its CELL is less", Sentences.told("back;ladder 0;ladder 3;goer 0 2 7;").of(0, 5), 3);
    }

    @Sentences.Holds("Terms: STEPS of a MINUTE are as loud as the MINUTE ahead of it tells")
    private static void loudByTheMinuteAhead() {
        IronStairs x = Sentences.goers(COOK, 0, 3);
        x.window(0, 2);
        due("MINUTE 0: 3 loud, 2 far", x.about(0, 2), 1);
        due("NIGHTS hear that one", x.nights(8, 1), 1);
        x.sound(0, 0, 3);
        due("WHO finds him by 3", x.who(), 1);
        x = Sentences.goers(0, 3, 3, COOK, 0, 3);
        x.minutes(1);
        x.window(0, 3);
        due("MINUTE 1: 2 loud, 2 far", x.about(0, 2), 0);
        due("NIGHTS do not", x.nights(8, 1), 0);
    }

    @Sentences.Holds("Terms: STEPS .. are as loud .. on the FLOOR from which they are made")
    private static void loudByTheFloorLeft() {
        IronStairs x = Sentences.told("back;ladder 0;goer 3 0 4;goer 3 4 0;");
        due("a JUDGE up from FLOOR 0", x.of(0, 6), 6);
        due("a JUDGE down from FLOOR 1", x.of(1, 6), 3);
    }

    // ---- what may be undone

    @Sentences.Holds("Terms: UNDO: .. (8 at most): MINUTES gone by")
    private static void undoEightMinutesAtMost() {
        IronStairs x = new IronStairs();
        for (int n = 1; n <= 9; n++) {
            x.minutes(n);
            due("count(8)", x.count(8), Math.min(n, 8));
        }
        int minute = 45;
        for (int n = 9; n >= 2; n--) {
            minute -= n;
            due("undo() " + n, x.undo(), minute);
        }
        due("the ninth is forgotten", x.undo(), NO);
        due("the MINUTE", x.count(3), 1);
    }

    @Sentences.Holds("Terms: UNDO: .. (8 at most): turning")
    private static void undoEightTurnsAtMost() {
        IronStairs x = Sentences.goers(0, 0, 3);
        for (int n = 1; n <= 9; n++) {
            x.turns(0);
            due("count(8)", x.count(8), Math.min(n, 8));
        }
        for (int n = 0; n < 8; n++) {
            due("undo()", x.undo(), 0);
            due("BACK", x.of(0, 4), n % 2);
        }
        due("the ninth is forgotten", x.undo(), NO);
        due("BACK", x.of(0, 4), 1);
    }

    @Sentences.Holds("Terms: UNDO: .. (8 at most): drawing")
    private static void undoEightDrawsAtMost() {
        IronStairs x = new IronStairs();
        x.ladder(0);
        for (int n = 1; n <= 9; n++) {
            x.draws(0);
            due("count(8)", x.count(8), Math.min(n, 8));
        }
        for (int n = 0; n < 8; n++) {
            due("undo()", x.undo(), 0);
            due("down", x.rungs(0, 1), 1 - n % 2);
        }
        due("the ninth is forgotten", x.undo(), NO);
        due("down", x.rungs(0, 1), 0);
    }

    @Sentences.Holds("Promise 12: NO: none may be.")
    private static void undoOfNone() {
        IronStairs x = new IronStairs();
        due("undo()", x.undo(), NO);
        Sentences.refusals("none", x, 0, 1, 0);
        x.minutes(1);
        due("undo() of one", x.undo(), 0);
        due("undo() again", x.undo(), NO);
        Sentences.refusals("none again", x, 0, 2, 0);
        due("the MINUTE", x.count(3), 0);
    }

    /** One of each that may be undone: MINUTES, a turn, a draw. */
    private static IronStairs withThreeToUndo() {
        IronStairs x = Sentences.told("back;ladder 0;goer 0 0 3;window 0 0;");
        x.minutes(2);
        x.turns(0);
        x.draws(0);
        return x;
    }

    private static void undoesThree(String when, IronStairs x) {
        due(when + ": count(8)", x.count(8), 3);
        for (int minute : new int[] {2, 2, 0}) due(when + ": undo()", x.undo(), minute);
        due(when + ": undo() again", x.undo(), NO);
    }

    @Sentences.Holds("Terms: UNDO: where GOERS are")
    private static void undoPutsGoersWhereTheyWere() {
        IronStairs x = Sentences.full();
        x.minutes(1);
        x.minutes(60);
        int[] then = {1, 2, 8, 6, 17, 11};
        int[] homes = {0, 3, 4, 7, 16, 10};
        for (int i = 0; i < 6; i++) due("there " + i, x.of(i, 3), x.of(i, 2));
        x.undo();
        for (int i = 0; i < 6; i++) due("then " + i, x.of(i, 3), i == 2 ? x.where(i, 0) : then[i]);
        x.undo();
        for (int i = 0; i < 6; i++) due("at HOME " + i, x.of(i, 3), homes[i]);
    }

    @Sentences.Holds("Terms: UNDO: .. who is BACK")
    private static void undoPutsBackWhoIsBack() {
        IronStairs x = Sentences.full();
        for (int i = 0; i < 6; i++) x.turns(i);
        x.minutes(1);
        for (int n = 5; n >= 0; n--) {
            x.undo();
            for (int i = 0; i < 6; i++) due("BACK " + i, x.of(i, 4), i <= n ? 1 : 0);
        }
        x.undo();
        for (int i = 0; i < 6; i++) due("OUT " + i, x.of(i, 4), 0);
    }

    @Sentences.Holds("Terms: UNDO: .. which LADDERS are down")
    private static void undoPutsBackWhichLaddersAreDown() {
        IronStairs x = Sentences.full();
        for (int k = 0; k < 6; k++) x.draws(k);
        x.minutes(1);
        for (int n = 5; n >= 0; n--) {
            x.undo();
            for (int k = 0; k < 6; k++) due("down " + k, x.rungs(k, 1), k <= n ? 0 : 1);
        }
        x.undo();
        for (int k = 0; k < 6; k++) due("down " + k, x.rungs(k, 1), 1);
    }

    @Sentences.Holds("Terms: UNDO: .. the MINUTE as ahead of the last MINUTES gone by")
    private static void undoPutsBackTheMinute() {
        IronStairs x = new IronStairs();
        x.minutes(60);
        x.minutes(1);
        due("undo()", x.undo(), 60);
        due("the MINUTE", x.count(3), 60);
        due("undo()", x.undo(), 0);
        due("the MINUTE", x.count(3), 0);
    }

    @Sentences.Holds("Terms: UNDO: .. behind a LADDER .. that comes none may be")
    private static void undoBehindALadder() {
        IronStairs x = withThreeToUndo();
        due("ladder(1)", x.ladder(1), 1);
        due("count(8)", x.count(8), 0);
        due("undo()", x.undo(), NO);
        due("the MINUTE", x.count(3), 2);
    }

    @Sentences.Holds("Terms: UNDO: .. behind .. a GOER .. that comes none may be")
    private static void undoBehindAGoer() {
        IronStairs x = withThreeToUndo();
        due("goer(0, 0, 0)", x.goer(0, 0, 0), 1);
        due("count(8)", x.count(8), 0);
        due("undo()", x.undo(), NO);
        due("BACK", x.of(0, 4), 1);
    }

    @Sentences.Holds("Terms: UNDO: .. behind .. a WINDOW that comes none may be")
    private static void undoBehindAWindow() {
        IronStairs x = withThreeToUndo();
        due("window(0, 0)", x.window(0, 0), 1);
        due("count(8)", x.count(8), 0);
        due("undo()", x.undo(), NO);
        due("drawn up", x.rungs(0, 1), 0);
    }

    @Sentences.Holds("Promise 2: All as at first: none may be undone behind back()")
    private static void undoBehindBack() {
        IronStairs x = withThreeToUndo();
        x.back();
        due("count(8)", x.count(8), 0);
        due("undo()", x.undo(), NO);
    }

    @Sentences.Holds("Terms: UNDO: a LADDER, a GOER, a WINDOW that is refused has not come: all may be")
    private static void undoBehindRefusedOnes() {
        IronStairs x = withThreeToUndo();
        due("ladder(16)", x.ladder(16), BAD);
        due("ladder(0)", x.ladder(0), BAD);
        due("goer(6, 0, 0)", x.goer(6, 0, 0), BAD);
        due("window(0, 20)", x.window(0, 20), BAD);
        undoesThree("BAD", x);
        x = Sentences.full();
        x.minutes(2);
        x.turns(0);
        x.draws(0);
        due("a 7th LADDER", x.ladder(1), FULL);
        due("a 7th GOER", x.goer(0, 0, 0), FULL);
        due("a 5th WINDOW", x.window(0, 0), FULL);
        undoesThree("FULL", x);
    }

    @Sentences.Holds("Terms: UNDO: behind all else that comes (SOUNDS, NOTES, MARKS, bytes, THE FRACTION, IMAGES) all may be")
    private static void undoBehindAllElse() {
        IronStairs x = withThreeToUndo();
        x.sound(0, 0, 1);
        x.note(0, 0, 0, 0);
        x.mark(0, 0, 0, 0);
        x.forget(0);
        x.odds(0, 4, 5);
        x.type('b');
        x.clear();
        x.image(0);
        due("a FAULT", x.read(), -10);
        undoesThree("all else", x);
    }

    @Sentences.Holds("Terms: UNDO: .. (these alone: SOUNDS, NOTES, MARKS, THE TEXT, THE FRACTION, IMAGES, STATUS stay)")
    private static void undoLeavesAllElse() {
        IronStairs x = Sentences.told("back;ladder 0;goer 0 0 3;window 0 0;");
        x.minutes(2);
        x.sound(0, 0, 1);
        x.note(0, 0, 0, 0);
        x.mark(0, 0, 0, 0);
        x.odds(0, 4, 5);
        x.type('b');
        x.image(1);
        x.draws(9);
        due("undo()", x.undo(), 0);
        Sentences.counts("behind undo()", x, 1, 1, 1, 0, 0, 1, 1, 1, 0, 37);
        Sentences.fraction("behind undo()", x, 1, 2);
        Sentences.refusals("behind undo()", x, 1, 0, 0);
        due("the image stays", x.from(1), 1);
        due("and what it keeps", x.count(3), 2);
    }

    @Sentences.Holds("Terms: UNDO: what is undone is gone, and more may come in its place")
    private static void undoThenOn() {
        IronStairs x = Sentences.goers(0, 0, 3);
        for (int n = 0; n < 8; n++) x.minutes(1);
        for (int n = 0; n < 3; n++) x.undo();
        due("count(8)", x.count(8), 5);
        x.turns(0);
        due("count(8)", x.count(8), 6);
        due("the turn", x.undo(), 5);
        for (int minute = 4; minute >= 0; minute--) due("undo()", x.undo(), minute);
        due("no more", x.undo(), NO);
    }
}
