/** What there is as it comes: an empty one, a full one, one beyond, and room again. */
public final class BoundsOfRowsTest {
    private static final int NONE = Sentences.NONE, BAD = Sentences.BAD, NO = Sentences.NO, FULL = Sentences.FULL;
    private static final int ALL_KINDS = 63;

    public static void main(String[] names) {
        Sentences.run(BoundsOfRowsTest.class, names);
    }

    private static void due(String call, long got, long want) {
        Sentences.due(call, got, want);
    }

    /** Calls until it is full, each answered with the number due; then one more, and a wrong one. */
    private static void fills(IronStairs x, int first, int last, Sentences.CallOf good, Sentences.Call bad) {
        for (int n = first; n <= last; n++) due("one that comes", good.of(x, n), n);
        due("a wrong one, still with room or not", bad.of(x), BAD);
        Sentences.refusals("up to the last", x, 1, 0, 0);
        due("one more", good.of(x, last + 1), FULL);
        Sentences.refusals("one more", x, 1, 0, 1);
        due("another one more", good.of(x, last + 2), FULL);
        Sentences.refusals("another one more", x, 1, 0, 2);
    }

    /** When full, what is not as told is BAD, not FULL. */
    private static void badAheadOfFull(IronStairs x, Sentences.Call good, Sentences.Call bad) {
        due("it is full", good.of(x), FULL);
        due("full, and not as told", bad.of(x), BAD);
        Sentences.refusals("full, and not as told", x, 1, 0, 1);
    }

    private static IronStairs withSounds(int sounds) {
        IronStairs x = Sentences.told("back;goer 0 0 3;goer 1 0 3;window 4 0;");
        for (int n = 0; n < sounds; n++) x.sound(0, 1, 1);
        return x;
    }

    private static IronStairs withNotes(int notes) {
        IronStairs x = Sentences.told("back;goer 0 0 3;goer 1 0 3;window 4 0;");
        for (int n = 0; n < notes; n++) x.note(0, 0, 1, 1);
        return x;
    }

    private static IronStairs withMarks(int marks) {
        IronStairs x = Sentences.told("back;goer 0 0 3;window 4 0;window 1 0;");
        for (int n = 0; n < marks; n++) x.mark(0, 1, 1, 1);
        return x;
    }

    private static IronStairs withBytes(int bytes) {
        IronStairs x = new IronStairs();
        for (int n = 0; n < bytes; n++) x.type(' ');
        return x;
    }

    // ---- nobody

    @Sentences.Holds("Promise 1: As told; nobody is there.")
    private static void newOneHasNobody() {
        IronStairs x = new IronStairs();
        Sentences.counts("new", x, 0, 0, 0, 0, 0, 0, 0, 0, 0, 0);
        due("of(0, 0)", x.of(0, 0), BAD);
        due("rungs(0, 0)", x.rungs(0, 0), BAD);
        due("about(0, 0)", x.about(0, 0), BAD);
    }

    @Sentences.Holds("Terms: THE FRACTION is 0 by 1 at first")
    private static void fractionAtFirst() {
        Sentences.fraction("new", new IronStairs(), 0, 1);
    }

    @Sentences.Holds("Terms: STATUS: how many calls were refused (none at first)")
    private static void statusAtFirst() {
        Sentences.refusals("new", new IronStairs(), 0, 0, 0);
    }

    @Sentences.Holds("Promise 40: h = 1601; then .. for each v (of nobody)")
    private static void digestOfNobody() {
        long h = 1601;
        for (int n = 0; n < 10; n++) h = 31 * h;
        due("digest of nobody", new IronStairs().digest(), (31 * h) * 31 + 1);
    }

    @Sentences.Holds("Promise 2: how many GOERS there were (none, six)")
    private static void backTellsNoneAndSix() {
        due("back() of nobody", new IronStairs().back(), 0);
        IronStairs x = Sentences.full();
        due("back() of six", x.back(), 6);
        due("back() again", x.back(), 0);
    }

    @Sentences.Holds("Promise 2: All as at first")
    private static void backOfFullIsEmpty() {
        IronStairs x = Sentences.full();
        for (int n = 0; n < 6; n++) x.note(n, 0, 0, 0);
        for (int n = 0; n < 6; n++) x.mark(n % 4, 0, 0, 0);
        for (int n = 0; n < 5; n++) x.sound(n % 4, 0, 1);
        for (int n = 0; n < 9; n++) x.minutes(1);
        x.back();
        due("all as at first", x.digest(), new IronStairs().digest());
        due("undo()", x.undo(), NO);
        for (int n = 0; n < 6; n++) due("ladder of a CELL that had one", x.ladder(new int[] {15, 11, 8, 5, 3, 0}[n]), n);
        for (int n = 0; n < 6; n++) due("goer", x.goer(0, 0, 0), n);
        for (int n = 0; n < 4; n++) due("window", x.window(0, 0), n);
    }

    @Sentences.Holds("Promise 2: All as at first (but for IMAGES ..)")
    private static void backKeepsImages() {
        IronStairs x = Sentences.goers(0, 0, 3);
        x.minutes(1);
        x.image(1);
        x.back();
        due("from(0)", x.from(0), NO);
        due("from(1)", x.from(1), 1);
        due("where", x.of(0, 3), 1);
        due("what may be undone", x.undo(), 0);
    }

    @Sentences.Holds("Promise 2: All as at first (but for .. THE TEXT ..)")
    private static void backKeepsTheText() {
        IronStairs x = Sentences.told("back;goer 0 0 0;");
        x.back();
        due("bytes", x.count(9), 16);
        due("read()", x.read(), 2);
        due("clear()", x.clear(), 16);
    }

    @Sentences.Holds("Promise 2: All as at first (but for .. THE FRACTION ..)")
    private static void backKeepsTheFraction() {
        IronStairs x = new IronStairs();
        x.ladder(0);
        x.odds(0, 4, 3);
        x.back();
        Sentences.fraction("as last", x, 7, 10);
    }

    @Sentences.Holds("Promise 2: All as at first (but for .. STATUS)")
    private static void backKeepsStatus() {
        IronStairs x = Sentences.full();
        x.ladder(16);
        x.undo();
        x.ladder(1);
        x.back();
        Sentences.refusals("as last", x, 1, 1, 1);
    }

    @Sentences.Holds("What it is: An object is used for at most 512 calls: the last one, as what is counted up to then")
    private static void lastOfTheCalls() {
        IronStairs x = new IronStairs();
        for (int n = 1; n <= 511; n++) due("bad call " + n, x.far(-1, n), BAD);
        due("status(0)", x.status(0), 511);
        x = new IronStairs();
        for (int n = 1; n <= 511; n++) due("undo() " + n, x.undo(), NO);
        due("status(1)", x.status(1), 511);
        x = new IronStairs();
        for (int w = 0; w < 4; w++) x.window(0, w);
        for (int n = 5; n <= 511; n++) due("call " + n, x.window(0, 0), FULL);
        due("status(2)", x.status(2), 507);
        x = Sentences.goers(1, 0, 3);
        for (int n = 2; n <= 511; n++) due("call " + n, x.turns(0), 1 - n % 2);
        due("undo(), the last", x.undo(), 0);
    }

    @Sentences.Holds("Promise 20: DOWN: the most (0; nobody: 0)")
    private static void downOfNobody() {
        IronStairs x = new IronStairs();
        due("down(0)", x.down(0), 0);
        due("down(1)", x.down(1), 0);
        Sentences.refusals("nobody", x, 0, 0, 0);
    }

    @Sentences.Holds("Promise 21: CUT .. NONE (no LADDER is there)")
    private static void cutOfNoLadder() {
        IronStairs x = Sentences.goers(0, 4, 4);
        due("cut(0)", x.cut(0), NONE);
        due("cut(1)", x.cut(1), NONE);
        Sentences.refusals("no LADDER", x, 0, 0, 0);
    }

    @Sentences.Holds("Promise 21: CUT: which (0), how many (1) (nobody is there)")
    private static void cutOfNobody() {
        IronStairs x = new IronStairs();
        x.ladder(4);
        due("cut(0)", x.cut(0), 0);
        due("cut(1)", x.cut(1), 0);
    }

    @Sentences.Holds("Promise 22: DOORS: how much (nobody is there)")
    private static void doorsOfNobody() {
        IronStairs x = new IronStairs();
        due("doors(NONE)", x.doors(NONE), 0);
        due("doors(0)", x.doors(0), -10);
    }

    @Sentences.Holds("Promise 22: DOORS: to whose HOME one goes (all six)")
    private static void doorsOfSix() {
        // all on one FLOOR: 0 to 5 have gone to 1 1 1 2 2 2, the HOMES are 0 0 0 3 3 3
        IronStairs x = Sentences.goers(0, 3, 1, 0, 3, 1, 0, 3, 1, 0, 0, 2, 0, 0, 2, 0, 0, 2);
        x.minutes(60);
        due("how much", x.doors(NONE), 6);
        int[] first = {3, 4, 5, 0, 1, 2};
        for (int i = 0; i < 6; i++) due("doors(" + i + ")", x.doors(i), first[i]);
    }

    @Sentences.Holds("Terms: WHO: GOERS (bits) (nobody; all six)")
    private static void whoOfNobodyAndSix() {
        due("nobody", new IronStairs().who(), 0);
        due("six", Sentences.full().who(), 63);
    }

    @Sentences.Holds("Promise 34: NIGHTS (no GOER, no WINDOW, no MINUTE)")
    private static void nightsOfNobody() {
        due("nobody", Sentences.told("back;window 4 0;").nights(5, 60), 0);
        due("no WINDOW", Sentences.told("back;goer 1 0 3;").nights(5, 60), 0);
        due("no MINUTE", Sentences.told("back;window 4 0;goer 1 0 3;").nights(5, 0), 0);
        due("one MINUTE", Sentences.told("back;window 4 0;goer 1 0 3;").nights(5, 1), 1);
    }

    // ---- ladders, goers, windows

    @Sentences.Holds("Promise 3: A LADDER: its number. (0 .. 5) .. FULL: 6.")
    private static void laddersUpToSix() {
        IronStairs x = new IronStairs();
        fills(x, 0, 5, (o, n) -> o.ladder(2 * n), o -> o.ladder(16));
        due("how many", x.count(1), 6);
        for (int k = 0; k < 6; k++) due("CELL of " + k, x.rungs(k, 0), 2 * k);
    }

    @Sentences.Holds("Promise 3: BAD .. ; FULL: 6. (the first of)")
    private static void ladderBadAheadOfFull() {
        badAheadOfFull(Sentences.full(), x -> x.ladder(1), x -> x.ladder(16));
        badAheadOfFull(Sentences.full(), x -> x.ladder(1), x -> x.ladder(15));
    }

    @Sentences.Holds("Promise 3: BAD: there is one of that CELL, too")
    private static void ladderOfCellThatHasOne() {
        IronStairs x = new IronStairs();
        x.ladder(7);
        due("again", x.ladder(7), BAD);
        x.draws(0);
        due("drawn up", x.ladder(7), BAD);
        x.ladder(0);
        due("the first, still", x.ladder(7), BAD);
        due("the last", x.ladder(0), BAD);
        due("another", x.ladder(11), 2);
        Sentences.refusals("that CELL", x, 4, 0, 0);
    }

    @Sentences.Holds("Terms: LADDERS .. down (it can be gone) or drawn up (down at first)")
    private static void ladderIsDownAtFirst() {
        IronStairs x = new IronStairs();
        for (int k = 0; k < 6; k++) {
            x.ladder(k);
            due("down", x.rungs(k, 1), 1);
        }
    }

    @Sentences.Holds("Terms: LADDERS: of a CELL .., up to the one above it (4 more): the first, the last")
    private static void ladderLeadsFourUp() {
        IronStairs x = Sentences.told("back;ladder 0;ladder 15;");
        due("far(0, 4)", x.far(0, 4), 1);
        due("far(4, 0)", x.far(4, 0), 1);
        due("far(15, 19)", x.far(15, 19), 1);
        due("far(19, 15)", x.far(19, 15), 1);
        due("far(4, 8)", x.far(4, 8), NONE);
        due("far(11, 15)", x.far(11, 15), NONE);
    }

    @Sentences.Holds("Promise 4: A GOER: the number. (0 .. 5) .. FULL: 6.")
    private static void goersUpToSix() {
        IronStairs x = new IronStairs();
        fills(x, 0, 5, (o, n) -> o.goer(n % 6, 19 - n, n), o -> o.goer(6, 0, 0));
        due("how many", x.count(0), 6);
        for (int i = 0; i < 6; i++) {
            due("KIND of " + i, x.of(i, 0), i);
            due("HOME of " + i, x.of(i, 1), 19 - i);
            due("WANT of " + i, x.of(i, 2), i);
        }
    }

    @Sentences.Holds("Promise 4: BAD; FULL: 6. (the first of)")
    private static void goerBadAheadOfFull() {
        badAheadOfFull(Sentences.full(), x -> x.goer(0, 0, 0), x -> x.goer(6, 0, 0));
        badAheadOfFull(Sentences.full(), x -> x.goer(0, 0, 0), x -> x.goer(0, 20, 0));
        badAheadOfFull(Sentences.full(), x -> x.goer(0, 0, 0), x -> x.goer(0, 0, -1));
    }

    @Sentences.Holds("Terms: GOERS: each is at HOME at first .. (BACK; OUT at first)")
    private static void goerIsAtHomeAndOutAtFirst() {
        IronStairs x = new IronStairs();
        for (int i = 0; i < 6; i++) {
            x.goer(i, 19 - i, i);
            due("where", x.of(i, 3), 19 - i);
            due("BACK", x.of(i, 4), 0);
        }
        // rows that were used before
        for (int i = 0; i < 6; i++) x.turns(i);
        x.minutes(1);
        x.back();
        for (int i = 0; i < 6; i++) {
            x.goer(i, i, 19);
            due("where, anew", x.of(i, 3), i);
            due("BACK, anew", x.of(i, 4), 0);
        }
    }

    @Sentences.Holds("Promise 5: A WINDOW: its number. (0 .. 3) .. FULL: 4.")
    private static void windowsUpToFour() {
        IronStairs x = new IronStairs();
        fills(x, 0, 3, (o, n) -> o.window(n % 6, 19 - n), o -> o.window(0, 20));
        due("how many", x.count(2), 4);
        for (int w = 0; w < 4; w++) {
            due("KIND of " + w, x.about(w, 0), w);
            due("CELL of " + w, x.about(w, 1), 19 - w);
        }
    }

    @Sentences.Holds("Promise 5: BAD; FULL: 4. (the first of)")
    private static void windowBadAheadOfFull() {
        badAheadOfFull(Sentences.full(), x -> x.window(0, 0), x -> x.window(-1, 0));
        badAheadOfFull(Sentences.full(), x -> x.window(0, 0), x -> x.window(0, 20));
    }

    // ---- the text

    @Sentences.Holds("Promise 6: A byte .. comes behind THE TEXT: how many it has. (150 bytes at most) .. FULL.")
    private static void textUpTo150() {
        IronStairs x = new IronStairs();
        fills(x, 1, 150, (o, n) -> o.type(' '), o -> o.type(128));
        due("bytes", x.count(9), 150);
    }

    @Sentences.Holds("Promise 6: BAD; FULL. (the first of)")
    private static void typeBadAheadOfFull() {
        badAheadOfFull(withBytes(150), x -> x.type(0), x -> x.type(128));
        badAheadOfFull(withBytes(150), x -> x.type(127), x -> x.type(-1));
    }

    @Sentences.Holds("Promise 7: THE TEXT is empty: how many it had. (none, 150)")
    private static void clearOfNoneAndFull() {
        IronStairs x = withBytes(150);
        due("clear() of 150", x.clear(), 150);
        due("bytes", x.count(9), 0);
        due("clear() of none", x.clear(), 0);
        due("room again", x.type('b'), 1);
        due("clear() of one", x.clear(), 1);
        Sentences.refusals("clear", x, 0, 0, 0);
    }

    // ---- sounds, notes, marks

    @Sentences.Holds("Promise 23: SOUNDS: how many there are. (0 .. 4) .. FULL: 5.")
    private static void soundsUpToFive() {
        IronStairs x = withSounds(0);
        fills(x, 1, 5, (o, n) -> o.sound(0, 0, 1), o -> o.sound(0, 31, 1));
        due("how many", x.count(5), 5);
    }

    @Sentences.Holds("Promise 23: BAD; FULL: 5. (the first of)")
    private static void soundBadAheadOfFull() {
        badAheadOfFull(withSounds(5), x -> x.sound(0, 0, 1), x -> x.sound(1, 0, 1));
        badAheadOfFull(withSounds(5), x -> x.sound(0, 0, 1), x -> x.sound(0, 0, 0));
    }

    @Sentences.Holds("Terms: WHO: GOERS .. by all SOUNDS (by none: all; the fifth, too)")
    private static void whoByNoneAndAllSounds() {
        due("no SOUNDS", withSounds(0).who(), 3);
        IronStairs x = withSounds(4);
        due("four of the SLIPPER", x.who(), 1);
        x.sound(0, 1, 3);
        due("the fifth of the BOOT", x.who(), 0);
    }

    @Sentences.Holds("Promise 25: A NOTE: how many there are. (0 .. 5) .. FULL: 6.")
    private static void notesUpToSix() {
        IronStairs x = withNotes(0);
        fills(x, 1, 6, (o, n) -> o.note(0, 0, 0, 0), o -> o.note(0, 5, 0, 0));
        due("how many", x.count(6), 6);
    }

    @Sentences.Holds("Promise 25: BAD; FULL: 6. (the first of)")
    private static void noteBadAheadOfFull() {
        badAheadOfFull(withNotes(6), x -> x.note(0, 0, 0, 0), x -> x.note(2, 0, 0, 0));
        badAheadOfFull(withNotes(6), x -> x.note(0, 0, 0, 0), x -> x.note(0, 0, 0, 21));
    }

    @Sentences.Holds("Terms: IS: KINDS (bits) by which all NOTES of one are so (none: all; the sixth, too; of one alone)")
    private static void isByNoneAndAllNotes() {
        due("no NOTES", withNotes(0).is(0), ALL_KINDS);
        IronStairs x = withNotes(5);
        due("1 loud on FLOOR 0, odd: SLIPPER, CHILD", x.is(0), 1 | 4);
        due("no NOTES of the other", x.is(1), ALL_KINDS);
        x.note(0, 0, 0, 1);
        due("the sixth: even, too: SLIPPER", x.is(0), 1);
    }

    @Sentences.Holds("Promise 26: A MARK: how many there are. (0 .. 5) .. FULL: 6.")
    private static void marksUpToSix() {
        IronStairs x = withMarks(0);
        fills(x, 1, 6, (o, n) -> o.mark(0, 0, 0, 0), o -> o.mark(0, 0, 8, 0));
        due("how many", x.count(7), 6);
    }

    @Sentences.Holds("Promise 26: BAD; FULL: 6. (the first of)")
    private static void markBadAheadOfFull() {
        badAheadOfFull(withMarks(6), x -> x.mark(0, 0, 0, 0), x -> x.mark(2, 0, 0, 0));
        badAheadOfFull(withMarks(6), x -> x.mark(0, 0, 0, 0), x -> x.mark(0, 0, 0, 2));
    }

    @Sentences.Holds("Terms: WHAT: KINDS of WINDOWS (bits) by which all MARKS of one are so (none: all; the sixth, too)")
    private static void kindsByNoneAndAllMarks() {
        due("no MARKS", withMarks(0).kinds(0), ALL_KINDS);
        IronStairs x = withMarks(5);
        due("1 loud, 1 far HEARD: LIGHT, LAMP, DOG", x.kinds(0), 2 | 8 | 16);
        due("no MARKS of the other", x.kinds(1), ALL_KINDS);
        x.mark(0, 0, 0, 1);
        due("the sixth: 0 loud, 0 far, too: LAMP", x.kinds(0), 8);
    }

    @Sentences.Holds("Promise 27: No SOUNDS (0): how many there were (none, five)")
    private static void forgetOfNoneAndFullSounds() {
        IronStairs x = withSounds(5);
        x.note(0, 0, 0, 0);
        x.mark(0, 0, 0, 0);
        due("five", x.forget(0), 5);
        due("none", x.forget(0), 0);
        due("all, by no SOUND", x.who(), 3);
        Sentences.counts("the others stay", x, 2, 0, 1, 0, 0, 0, 1, 1);
        due("room again", x.sound(0, 0, 1), 1);
        Sentences.refusals("forget", x, 0, 0, 0);
    }

    @Sentences.Holds("Promise 27: No .. NOTES (1): how many there were (none, six)")
    private static void forgetOfNoneAndFullNotes() {
        IronStairs x = withNotes(6);
        x.sound(0, 0, 1);
        x.mark(0, 0, 0, 0);
        due("six", x.forget(1), 6);
        due("none", x.forget(1), 0);
        due("all, by no NOTE", x.is(0), ALL_KINDS);
        Sentences.counts("the others stay", x, 2, 0, 1, 0, 0, 1, 0, 1);
        due("room again", x.note(0, 0, 0, 0), 1);
        Sentences.refusals("forget", x, 0, 0, 0);
    }

    @Sentences.Holds("Promise 27: No .. MARKS (2): how many there were (none, six)")
    private static void forgetOfNoneAndFullMarks() {
        IronStairs x = withMarks(6);
        x.sound(0, 0, 1);
        x.note(0, 0, 0, 0);
        due("six", x.forget(2), 6);
        due("none", x.forget(2), 0);
        due("all, by no MARK", x.kinds(0), ALL_KINDS);
        Sentences.counts("the others stay", x, 1, 0, 2, 0, 0, 1, 1, 0);
        due("room again", x.mark(0, 0, 0, 0), 1);
        Sentences.refusals("forget", x, 0, 0, 0);
    }

    // ---- images

    @Sentences.Holds("Promise 37: NO: none was kept.")
    private static void fromOfNone() {
        IronStairs x = new IronStairs();
        due("from(0)", x.from(0), NO);
        due("from(1)", x.from(1), NO);
        Sentences.refusals("none kept", x, 0, 2, 0);
        x.image(0);
        due("from(0), kept", x.from(0), 1);
        due("from(1), not kept", x.from(1), NO);
        x = new IronStairs();
        x.image(1);
        due("from(0), not kept", x.from(0), NO);
        due("from(1), kept", x.from(1), 1);
    }

    @Sentences.Holds("Promise 36: An IMAGE is kept: 1. (of nobody, too)")
    private static void imageOfNobody() {
        IronStairs x = new IronStairs();
        due("image(1)", x.image(1), 1);
        x.goer(0, 0, 0);
        due("from(1)", x.from(1), 1);
        due("nobody", x.digest(), new IronStairs().digest());
    }

    @Sentences.Holds("Promise 36: An IMAGE is kept (of all that there may be)")
    private static void imageOfFull() {
        IronStairs x = Sentences.full();
        for (int n = 0; n < 6; n++) x.note(n, n % 5, 90 + n, n);
        for (int n = 0; n < 6; n++) x.mark(n % 4, 15 + n, n, n % 2);
        for (int n = 0; n < 5; n++) x.sound(n % 4, 26 + n, 16 + n);
        x.draws(5);
        for (int n = 0; n < 6; n++) x.turns(n);
        x.minutes(60);
        long h = x.digest();
        x.image(0);
        // as much again, and all of it other
        x.back();
        for (int n = 0; n < 6; n++) x.ladder(6 + n);
        for (int n = 0; n < 6; n++) x.goer(n, 19 - n, 19 - n);
        for (int n = 0; n < 4; n++) x.window(5 - n, 9 + n);
        for (int n = 0; n < 6; n++) x.note(5 - n, 4, 4, 19);
        for (int n = 0; n < 6; n++) x.mark(3 - n % 4, 1, 7, 1 - n % 2);
        for (int n = 0; n < 5; n++) x.sound(3 - n % 4, 1, 1);
        for (int n = 0; n < 6; n++) x.draws(n);
        for (int n = 0; n < 8; n++) x.minutes(1);
        x.from(0);
        due("as it was", x.digest(), h);
        for (int n = 0; n < 8; n++) due("undo", x.undo(), 0);
        due("undo", x.undo(), NO);
        for (int n = 0; n < 6; n++) due("OUT", x.of(n, 4), 0);
        due("down", x.rungs(5, 1), 1);
    }

    @Sentences.Holds("Terms: IMAGES 0, 1: each for itself, the newest")
    private static void imagesAreTwo() {
        IronStairs x = new IronStairs();
        x.goer(1, 1, 1);
        x.image(0);
        x.goer(2, 2, 2);
        x.image(1);
        x.goer(3, 3, 3);
        x.from(0);
        due("one", x.count(0), 1);
        x.from(1);
        due("two", x.count(0), 2);
        x.image(0);
        x.back();
        x.from(0);
        due("kept anew", x.count(0), 2);
        x.back();
        x.from(1);
        due("the other stays", x.count(0), 2);
    }

    @Sentences.Holds("Terms: IMAGES 0, 1 keep all but them")
    private static void imagesKeepNoImages() {
        IronStairs x = new IronStairs();
        x.image(0);
        x.goer(0, 0, 0);
        x.image(1);
        x.from(0);
        due("the other one is still there", x.from(1), 1);
        due("as it was", x.count(0), 1);
        x.from(0);
        due("and the first", x.count(0), 0);
    }

    @Sentences.Holds("Terms: IMAGES 0, 1 keep all but .. THE TEXT")
    private static void imagesKeepNoText() {
        IronStairs x = new IronStairs();
        Sentences.type(x, "back;");
        x.image(0);
        Sentences.type(x, "back;goer 0 0 0;");
        x.from(0);
        due("bytes", x.count(9), 16);
        due("read()", x.read(), 2);
    }

    @Sentences.Holds("Terms: IMAGES 0, 1 keep all but .. THE FRACTION")
    private static void imagesKeepNoFraction() {
        IronStairs x = new IronStairs();
        x.ladder(0);
        x.odds(0, 4, 5);
        x.image(0);
        x.odds(0, 4, 3);
        x.from(0);
        Sentences.fraction("as last", x, 7, 10);
    }

    @Sentences.Holds("Terms: IMAGES 0, 1 keep all but .. STATUS")
    private static void imagesKeepNoStatus() {
        IronStairs x = Sentences.full();
        x.image(0);
        x.ladder(16);
        x.ladder(1);
        x.from(1);
        x.from(0);
        Sentences.refusals("as last", x, 1, 1, 1);
    }

    @Sentences.Holds("Terms: IMAGES .. what may be undone they keep")
    private static void imagesKeepWhatMayBeUndone() {
        IronStairs x = Sentences.goers(0, 0, 3);
        x.minutes(1);
        x.turns(0);
        x.image(0);
        x.undo();
        x.undo();
        x.from(0);
        due("two", x.count(8), 2);
        due("the turn", x.undo(), 1);
        due("the MINUTE", x.undo(), 0);
        due("where", x.of(0, 3), 0);
        due("no more", x.undo(), NO);
        x.image(1);
        x.minutes(5);
        x.from(1);
        due("none was kept", x.undo(), NO);
    }

    @Sentences.Holds("Promise 40: of LADDERS .. of MARKS .. (as many as there may be)")
    private static void digestOfFull() {
        IronStairs x = Sentences.full();
        for (int n = 0; n < 6; n++) x.note(n, n % 5, 90 + n, n);
        for (int n = 0; n < 6; n++) x.mark(n % 4, 15 + n, n, n % 2);
        for (int n = 0; n < 5; n++) x.sound(n % 4, 26 + n, 16 + n);
        long h = 1601;
        for (int v : new int[] {6, 6, 4, 0, 0, 5, 6, 6, 0, 0}) h = 31 * h + v;
        for (int c : new int[] {0, 3, 5, 8, 11, 15}) h = 31 * (31 * h + c) + 1;
        int[] goers = {0, 0, 3, 0, 0, 1, 3, 0, 3, 0, 2, 4, 8, 4, 0, 3, 7, 6, 7, 0, 4, 16, 17, 16, 0, 5, 10, 11, 10, 0};
        for (int v : goers) h = 31 * h + v;
        for (int w = 0; w < 4; w++) h = 31 * (31 * h + w) + 5 * w;
        for (int n = 0; n < 5; n++) h = 31 * (31 * (31 * h + n % 4) + 26 + n) + 16 + n;
        for (int n = 0; n < 6; n++) h = 31 * (31 * (31 * (31 * h + n) + n % 5) + 90 + n) + n;
        for (int n = 0; n < 6; n++) h = 31 * (31 * (31 * (31 * h + n % 4) + 15 + n) + n) + n % 2;
        due("digest", x.digest(), (31 * h) * 31 + 1);
    }
}
