/** Each promise of the document: ordinary inputs, the edges it names, wrong inputs. The answers are worked out by hand. */
public final class PromisesTest {
    private static final int NONE = -1, BAD = -2, NO = -3, FULL = -4;
    private static final int LOW = Integer.MIN_VALUE, HIGH = Integer.MAX_VALUE;
    private static int wrong = 0;

    private static void due(String call, long got, long want) {
        if (got == want) return;
        wrong++;
        System.out.println(call + " answered " + got + ", due is " + want);
    }

    private static void type(IronStairs x, String text) {
        x.clear();
        for (int i = 0; i < text.length(); i++) x.type(text.charAt(i));
    }

    /** What read() answers to a text, on a new object. */
    private static int read(String text) {
        IronStairs x = new IronStairs();
        type(x, text);
        return x.read();
    }

    private static void fault(String text, int place) {
        due("read of '" + text + "'", read(text), -10 - place);
    }

    private static IronStairs told(String text) {
        IronStairs x = new IronStairs();
        type(x, text);
        if (x.read() < 0) due("read of '" + text + "'", x.read(), 1);
        return x;
    }

    private static IronStairs goers(int... kindHomeWant) {
        IronStairs x = new IronStairs();
        for (int i = 0; i + 2 < kindHomeWant.length; i += 3) {
            x.goer(kindHomeWant[i], kindHomeWant[i + 1], kindHomeWant[i + 2]);
        }
        return x;
    }

    private static void counts(String when, IronStairs x, int... want) {
        for (int what = 0; what < want.length; what++) due(when + ": count(" + what + ")", x.count(what), want[what]);
    }

    private static void fraction(String when, IronStairs x, long above, long below) {
        due(when + ": part(0)", x.part(0), above);
        due(when + ": part(1)", x.part(1), below);
    }

    private static void refusals(String when, IronStairs x, int bad, int no, int full) {
        due(when + ": status(0)", x.status(0), bad);
        due(when + ": status(1)", x.status(1), no);
        due(when + ": status(2)", x.status(2), full);
    }

    private static long mix(long h, long... values) {
        for (long v : values) h = 31 * h + v;
        return h;
    }

    public static void main(String[] args) {
        newObject();
        back();
        ladder();
        goer();
        window();
        typeAndClear();
        readTakes();
        readFaults();
        minutes();
        turnsAndDraws();
        undo();
        of();
        loudness();
        aboutAndRungs();
        hearing();
        far();
        where();
        meet();
        waits();
        down();
        cut();
        doors();
        soundAndWho();
        noteIsLook();
        markKindsAsk();
        forget();
        shy();
        odds();
        nights();
        images();
        status();
        count();
        digest();
        System.out.println(wrong == 0 ? "all promises are kept" : wrong + " answers are not as due");
        if (wrong != 0) System.exit(1);
    }

    // Promise 1
    private static void newObject() {
        IronStairs x = new IronStairs();
        counts("new", x, 0, 0, 0, 0, 0, 0, 0, 0, 0, 0);
        fraction("new", x, 0, 1);
        refusals("new", x, 0, 0, 0);
        due("new: from(0)", x.from(0), NO);
        due("new: from(1)", x.from(1), NO);
        due("new: undo()", x.undo(), NO);
        due("new: digest()", x.digest(), mix(1601, 0, 0, 0, 0, 0, 0, 0, 0, 0, 0, 0, 1));
        due("NONE", IronStairs.NONE, NONE);
        due("BAD", IronStairs.BAD, BAD);
        due("NO", IronStairs.NO, NO);
        due("FULL", IronStairs.FULL, FULL);
    }

    // Promise 2
    private static void back() {
        IronStairs x = told("back;ladder 0;goer 0 0 4;goer 1 1 2;window 0 0;minutes 3;");
        x.sound(0, 0, 1);
        x.note(0, 0, 0, 1);
        x.mark(0, 1, 0, 1);
        x.odds(0, 4, 5);
        x.image(1);
        x.minutes(1);
        x.ladder(99);
        due("back()", x.back(), 2);
        counts("after back", x, 0, 0, 0, 0, 0, 0, 0, 0, 0, 57);
        fraction("after back", x, 1, 2);
        refusals("after back", x, 1, 0, 0);
        due("undo() after back", x.undo(), NO);
        due("from(0) after back", x.from(0), NO);
        due("from(1) after back", x.from(1), 1);
        due("count(0) of the image", x.count(0), 2);
        x.back();
        due("back() of nobody", x.back(), 0);
        due("ladder(0) after back", x.ladder(0), 0);
    }

    // Promise 3
    private static void ladder() {
        IronStairs x = new IronStairs();
        due("ladder(-1)", x.ladder(-1), BAD);
        due("ladder(16)", x.ladder(16), BAD);
        due("ladder(LOW)", x.ladder(LOW), BAD);
        due("ladder(15)", x.ladder(15), 0);
        due("ladder(15) again", x.ladder(15), BAD);
        due("ladder(0)", x.ladder(0), 1);
        due("is down at first", x.rungs(1, 1), 1);
        x.draws(0);
        due("undoable", x.count(8), 1);
        due("ladder(15) drawn up", x.ladder(15), BAD);
        due("undoable behind a refused one", x.count(8), 1);
        due("ladder(1)", x.ladder(1), 2);
        due("undoable behind one that came", x.count(8), 0);
        due("ladder(2)", x.ladder(2), 3);
        due("ladder(3)", x.ladder(3), 4);
        due("ladder(4)", x.ladder(4), 5);
        x.draws(0);
        due("ladder(5), a 7th", x.ladder(5), FULL);
        due("ladder(4), a 7th, there", x.ladder(4), BAD);
        due("ladder(16), a 7th", x.ladder(16), BAD);
        due("undoable behind a 7th", x.count(8), 1);
        refusals("ladders", x, 7, 0, 1);
    }

    // Promise 4
    private static void goer() {
        IronStairs x = new IronStairs();
        int[][] bad = {{-1, 0, 0}, {6, 0, 0}, {0, -1, 0}, {0, 20, 0}, {0, 0, -1}, {0, 0, 20}, {LOW, HIGH, LOW}};
        for (int[] b : bad) due("goer, bad", x.goer(b[0], b[1], b[2]), BAD);
        for (int i = 0; i < 6; i++) {
            x.minutes(1);
            due("goer " + i, x.goer(i, 19 - i, i), i);
            due("undoable", x.count(8), 0);
        }
        for (int i = 0; i < 6; i++) {
            due("KIND", x.of(i, 0), i);
            due("HOME", x.of(i, 1), 19 - i);
            due("WANT", x.of(i, 2), i);
            due("where", x.of(i, 3), i == 5 ? 14 : 19 - i);
            due("BACK", x.of(i, 4), 0);
        }
        due("a 7th goer", x.goer(0, 0, 0), FULL);
        due("a 7th goer, bad", x.goer(0, 0, 20), BAD);
        refusals("goers", x, 8, 0, 1);
    }

    // Promise 5
    private static void window() {
        IronStairs x = new IronStairs();
        int[][] bad = {{-1, 0}, {6, 0}, {0, -1}, {0, 20}, {HIGH, LOW}};
        for (int[] b : bad) due("window, bad", x.window(b[0], b[1]), BAD);
        for (int w = 0; w < 4; w++) {
            x.minutes(1);
            due("window " + w, x.window(5 - w, 19 - w), w);
            due("undoable", x.count(8), 0);
            due("its KIND", x.about(w, 0), 5 - w);
            due("its CELL", x.about(w, 1), 19 - w);
        }
        due("a 5th window", x.window(0, 0), FULL);
        due("a 5th window, bad", x.window(0, 20), BAD);
        refusals("windows", x, 6, 0, 1);
    }

    // Promises 6 and 7
    private static void typeAndClear() {
        IronStairs x = new IronStairs();
        due("type(-1)", x.type(-1), BAD);
        due("type(128)", x.type(128), BAD);
        due("type(0)", x.type(0), 1);
        due("type(127)", x.type(127), 2);
        due("clear()", x.clear(), 2);
        due("clear() of none", x.clear(), 0);
        for (int i = 1; i <= 150; i++) due("type", x.type(' '), i);
        due("a 151st byte", x.type(' '), FULL);
        due("a 151st byte, bad", x.type(128), BAD);
        due("bytes", x.count(9), 150);
        due("read() of blanks", x.read(), -160);
        due("clear() of 150", x.clear(), 150);
        due("type() again", x.type('b'), 1);
        refusals("bytes", x, 3, 0, 1);
    }

    // Promise 8
    private static void readTakes() {
        due("back;", read("back;"), 1);
        due("blanks all over", read("  back  ;  ladder   0 ;goer0 1 2;   "), 3);
        due("numbers of two figures", read("back;ladder 07;goer 05 00 19;"), 3);
        due("no blanks but between numbers", read("back;ladder3;draw0;minutes9;window5 19;"), 5);
        StringBuilder full = new StringBuilder("back;");
        for (int k = 0; k < 6; k++) full.append("ladder").append(k).append(';');
        for (int i = 0; i < 6; i++) full.append("goer0 0 ").append(i).append(';');
        for (int w = 0; w < 3; w++) full.append("window0 0;");
        due("15 items and back", read(full.toString()), 16);

        IronStairs x = told("back;ladder 0;goer 1 0 4;goer 2 3 0;turn 1;minutes 1;draw 0;window 4 7;turn 0;turn 0;");
        x.clear();
        counts("told", x, 2, 1, 1, 1, 2, 0, 0, 0, 0, 0);
        due("the first went where the item stands", x.of(0, 3), 4);
        due("the second was BACK already", x.of(1, 3), 3);
        due("the second is BACK", x.of(1, 4), 1);
        due("the first is OUT again", x.of(0, 4), 0);
        due("the ladder is up", x.rungs(0, 1), 0);
        due("the window's KIND", x.about(0, 0), 4);
        due("the window's CELL", x.about(0, 1), 7);
        due("nothing to undo", x.undo(), NO);

        x = goers(0, 0, 3);
        x.window(0, 0);
        x.minutes(5);
        x.sound(0, 0, 1);
        x.note(0, 0, 0, 1);
        x.mark(0, 1, 0, 1);
        x.odds(0, 0, 5);
        x.image(0);
        x.undo();
        x.minutes(2);
        type(x, "back;goer 5 5 5;goer 4 4 4;minutes 99;minutes 01;");
        long before = x.status(0);
        due("read()", x.read(), 5);
        counts("read over", x, 2, 0, 0, 100, 2, 0, 0, 0, 0, 49);
        fraction("read over", x, 1, 1);
        due("BAD as before", x.status(0), before);
        due("the image is there", x.from(0), 1);
        counts("from the image", x, 1, 0, 1, 5, 1, 1, 1, 1, 1, 49);

        type(x, "back;window 1 1;");
        due("read() again", x.read(), 2);
        counts("read over again", x, 0, 0, 1, 0, 0, 0, 0, 0, 0, 16);
        x.from(0);
        type(x, "back;goer 0 0 0;oops;");
        long h = x.digest();
        due("a fault", x.read(), -26);
        due("all stays", x.digest(), h);
        due("what may be undone, too", x.undo(), 0);
        refusals("a fault counts as none", x, 0, 0, 0);
    }

    // Promise 8: FAULT
    private static void readFaults() {
        fault("", 0);
        fault("   ", 3);
        fault("bac", 0);
        fault("back", 4);
        fault("back ", 5);
        fault("ladder 0;", 0);
        fault("  goer 0 0 0;", 2);
        fault(";back;", 0);
        fault("7back;", 0);
        fault("Back;", 0);
        fault("backs;", 0);
        fault("pack;", 0);
        fault("bakk;", 0);
        fault("back back;", 5);
        fault("back;hoer 0 0 0;", 5);
        fault("back;goez 0 0 0;", 5);
        fault("back;goerz 0 0 0;", 5);
        fault("back;goera 0 0 0;", 5);
        fault("back 1;", 5);
        fault("back;;", 5);
        fault("back; back;", 6);
        fault("back;ladder 1;back;", 14);
        fault("back;1;", 5);
        fault("back;ladders 1;", 5);
        fault("back;ladder", 11);
        fault("back;ladder 1", 13);
        fault("back;ladder ;", 12);
        fault("back;ladder x;", 12);
        fault("back;ladder 16;", 12);
        fault("back;ladder 001;", 12);
        fault("back;ladder 1 2;", 14);
        fault("back;ladder 1;ladder 01;", 21);
        fault("back;ladder 1;ladder 1", 21);
        fault("back;ladder 1\t;", 13);
        fault("back;ladder -1;", 12);
        fault("back;ladder0;ladder1;ladder2;ladder3;ladder4;ladder5;ladder6;", 53);
        fault("back;ladder0;ladder1;ladder2;ladder3;ladder4;ladder5;ladder", 53);
        fault("back;goer 6 0 0;", 10);
        fault("back;goer 5 20 0;", 12);
        fault("back;goer 5 19 20;", 15);
        fault("back;goer 5 19 ;", 15);
        fault("back;goer 5 19 0 0;", 17);
        fault("back;goer 0 000;", 12);
        fault("back;goer 0 1234567890123456789;", 12);
        fault("back;goer0 0 0;goer0 0 0;goer0 0 0;goer0 0 0;goer0 0 0;goer0 0 0;goer0 0 0;", 65);
        fault("back;window 6 0;", 12);
        fault("back;window 0 20;", 14);
        fault("back;window0 0;window0 0;window0 0;window0 0;window", 45);
        fault("back;turn 0;", 10);
        fault("back;turn ;", 10);
        fault("back;goer0 0 0;turn 1;", 20);
        fault("back;turn 0;goer0 0 0;", 10);
        fault("back;draw 0;", 10);
        fault("back;ladder 0;draw 1;", 19);
        fault("back;minutes 0;", 13);
        fault("back;minutes 00;", 13);
        fault("back;minutes 100;", 13);
        fault("back;minutes 99;minutes", 23);
        fault("back;minutes 9 9;", 15);
        fault("back;%;", 5);
        IronStairs x = new IronStairs();
        type(x, "back;");
        x.type(0);
        due("a byte 0", x.read(), -15);
    }

    // Promise 9
    private static void minutes() {
        IronStairs x = goers(0, 0, 3, 0, 4, 4, 0, 3, 0, 0, 0, 16);
        due("minutes(0)", x.minutes(0), BAD);
        due("minutes(61)", x.minutes(61), BAD);
        due("minutes(LOW)", x.minutes(LOW), BAD);
        due("undoable", x.count(8), 0);
        due("minutes(1)", x.minutes(1), 2);
        due("where 0", x.of(0, 3), 1);
        due("where 1", x.of(1, 3), 4);
        due("where 2", x.of(2, 3), 2);
        due("no WAY: he stays", x.of(3, 3), 0);
        due("minutes(60)", x.minutes(60), 4);
        due("where 0", x.of(0, 3), 3);
        due("the MINUTE", x.count(3), 61);
        due("undoable", x.count(8), 2);
        refusals("minutes", x, 3, 0, 0);

        x = goers(0, 0, 3);
        for (int i = 0; i < 166; i++) x.minutes(60);
        due("the MINUTE", x.count(3), 9960);
        x.turns(0);
        due("up to 9999", x.minutes(60), 3);
        due("the MINUTE", x.count(3), 9999);
        x.turns(0);
        due("at 9999 none", x.minutes(1), 0);
        due("he stays there", x.of(0, 3), 0);
        due("NEXT goes beyond", x.of(0, 5), 1);
        due("where goes beyond", x.where(0, 2), 2);
        due("undoable", x.count(8), 8);
        due("undo of none", x.undo(), 9999);
        due("undo of a turn", x.undo(), 9999);
        due("undo of 39", x.undo(), 9960);

        // a shortest way leads on by the least cell: down, left, right, up
        x = told("back;ladder 1;ladder 6;ladder 0;goer 0 0 10;goer 0 10 0;goer 0 5 8;");
        due("up goes behind right", x.of(0, 5), 1);
        due("left goes ahead of nothing", x.of(1, 5), 6);
        x = told("back;ladder 4;ladder 5;goer 0 5 8;goer 0 9 4;");
        due("left goes ahead of up", x.of(0, 5), 4);
        due("down goes ahead of left", x.of(1, 5), 5);
        x = told("back;ladder 4;ladder 5;ladder 6;goer 0 5 10;goer 0 9 6;");
        due("right goes ahead of up", x.of(0, 5), 6);
        due("down goes ahead of right", x.of(1, 5), 5);
    }

    // Promises 10 and 11
    private static void turnsAndDraws() {
        IronStairs x = goers(0, 0, 3);
        due("turns(-1)", x.turns(-1), BAD);
        due("turns(1)", x.turns(1), BAD);
        due("draws(0)", x.draws(0), BAD);
        due("undoable", x.count(8), 0);
        x.minutes(2);
        due("turns(0)", x.turns(0), 1);
        due("BACK", x.of(0, 4), 1);
        due("NEXT", x.of(0, 5), 1);
        due("turns(0) again", x.turns(0), 0);
        due("NEXT", x.of(0, 5), 3);
        due("undoable", x.count(8), 3);
        refusals("turns", x, 3, 0, 0);
        x.ladder(3);
        due("draws(0)", x.draws(0), 0);
        due("is up", x.rungs(0, 1), 0);
        due("far", x.far(0, 4), NONE);
        due("draws(0) again", x.draws(0), 1);
        due("far", x.far(0, 4), 7);
        due("draws(1)", x.draws(1), BAD);
        due("draws(-1)", x.draws(-1), BAD);
        due("undoable", x.count(8), 2);
    }

    // Promise 12
    private static void undo() {
        IronStairs x = told("back;ladder 0;ladder 5;goer 0 0 4;goer 0 1 9;");
        due("undo of none", x.undo(), NO);
        x.minutes(2);
        x.turns(1);
        x.draws(1);
        x.minutes(3);
        due("where 1, BACK at 1", x.of(1, 3), 1);
        due("undo minutes", x.undo(), 2);
        due("where 1", x.of(1, 3), 4);
        due("still up", x.rungs(1, 1), 0);
        due("undo draws", x.undo(), 2);
        due("down again", x.rungs(1, 1), 1);
        due("still BACK", x.of(1, 4), 1);
        due("undo turns", x.undo(), 2);
        due("OUT again", x.of(1, 4), 0);
        due("undo minutes", x.undo(), 0);
        due("where 0", x.of(0, 3), 0);
        due("where 1", x.of(1, 3), 1);
        due("undo of none", x.undo(), NO);
        refusals("undo", x, 0, 2, 0);
        x = told("back;ladder 0;goer 0 5 6;");
        x.turns(0);
        x.draws(0);
        x.minutes(1);
        x.undo();
        due("where the first was", x.of(0, 3), 5);
        due("BACK", x.of(0, 4), 1);
        due("the first LADDER is up", x.rungs(0, 1), 0);
        x.undo();
        due("down again", x.rungs(0, 1), 1);
        x.undo();
        due("OUT again", x.of(0, 4), 0);
        for (int i = 0; i < 9; i++) x.minutes(i + 1);
        due("8 at most", x.count(8), 8);
        int minute = 45;
        for (int i = 8; i >= 1; i--) {
            minute -= i + 1;
            due("undo " + i, x.undo(), minute);
        }
        due("the first is forgotten", x.undo(), NO);
        due("the MINUTE", x.count(3), 1);
        x.minutes(1);
        x.note(0, 0, 0, 0);
        due("undo leaves NOTES", x.undo(), 1);
        due("NOTES", x.count(6), 1);
    }

    // Promise 13
    private static void of() {
        IronStairs x = told("back;ladder 4;goer 4 17 18;goer 5 4 9;minutes 1;");
        int[][] want = {{4, 17, 18, 18, 0, 18, 0}, {5, 4, 9, 8, 0, 9, 3}};
        for (int i = 0; i < 2; i++) {
            for (int what = 0; what < 7; what++) due("of(" + i + ", " + what + ")", x.of(i, what), want[i][what]);
        }
        due("of(2, 0)", x.of(2, 0), BAD);
        due("of(-1, 0)", x.of(-1, 0), BAD);
        due("of(0, 7)", x.of(0, 7), BAD);
        due("of(0, -1)", x.of(0, -1), BAD);
        refusals("of", x, 4, 0, 0);
        x.draws(0);
        due("NEXT along the FLOOR", x.of(1, 5), 9);
        x.turns(1);
        due("NEXT with no WAY", x.of(1, 5), 8);
        due("LOUD with no WAY", x.of(1, 6), 0);
        x.draws(0);
        due("LOUD, let down", x.of(1, 6), 3);
        x.turns(1);
        x.minutes(1);
        x.turns(1);
        due("BACK", x.of(1, 4), 1);
        due("NEXT of one who goes HOME", x.of(1, 5), 8);
        x.draws(0);
        x.minutes(3);
        due("no WAY: NEXT is where he is", x.of(1, 5), x.of(1, 3));
        due("no WAY: LOUD is 0", x.of(1, 6), 0);
    }

    // Promise 13: LOUD of each KIND on each FLOOR in an even and an odd MINUTE
    private static void loudness() {
        int[][] even = {{1, 1, 2, 2, 3}, {3, 3, 4, 4, 5}, {0, 0, 0, 0, 0}, {6, 3, 4, 4, 5}, {0, 0, 1, 1, 1}, {3, 3, 4, 4, 5}};
        int[][] odd = {{1, 1, 2, 2, 3}, {3, 3, 4, 4, 5}, {1, 1, 2, 2, 3}, {6, 3, 4, 4, 5}, {0, 0, 1, 1, 1}, {2, 2, 3, 3, 4}};
        for (int kind = 0; kind < 6; kind++) {
            for (int f = 0; f < 5; f++) {
                IronStairs x = goers(kind, 4 * f, 4 * f + 3);
                due("LOUD of KIND " + kind + " on FLOOR " + f, x.of(0, 6), even[kind][f]);
                x.minutes(1);
                due("LOUD of KIND " + kind + " on FLOOR " + f + ", odd", x.of(0, 6), odd[kind][f]);
                x.minutes(1);
                due("LOUD of KIND " + kind + " on FLOOR " + f + ", even", x.of(0, 6), even[kind][f]);
            }
        }
        IronStairs x = told("back;ladder 4;goer 3 0 8;goer 1 12 0;ladder 8;ladder 0;minutes 1;");
        due("a JUDGE's next step is told by the FLOOR it is made from", x.of(0, 6), 3);
        due("a BOOT's, too", x.of(1, 6), 4);
    }

    // Promises 14 and 15
    private static void aboutAndRungs() {
        IronStairs x = told("back;ladder 15;ladder 2;window 3 19;window 0 4;draw 1;");
        due("about(0, 0)", x.about(0, 0), 3);
        due("about(0, 1)", x.about(0, 1), 19);
        due("about(0, 2) of nobody", x.about(0, 2), 0);
        due("about(1, 1)", x.about(1, 1), 4);
        due("rungs(0, 0)", x.rungs(0, 0), 15);
        due("rungs(0, 1)", x.rungs(0, 1), 1);
        due("rungs(1, 0)", x.rungs(1, 0), 2);
        due("rungs(1, 1)", x.rungs(1, 1), 0);
        due("about(2, 0)", x.about(2, 0), BAD);
        due("about(-1, 0)", x.about(-1, 0), BAD);
        due("about(0, 3)", x.about(0, 3), BAD);
        due("about(0, -1)", x.about(0, -1), BAD);
        due("rungs(2, 0)", x.rungs(2, 0), BAD);
        due("rungs(-1, 0)", x.rungs(-1, 0), BAD);
        due("rungs(0, 2)", x.rungs(0, 2), BAD);
        due("rungs(0, -1)", x.rungs(0, -1), BAD);
        refusals("about, rungs", x, 8, 0, 0);
    }

    // Promise 14: HEARS by KINDS of WINDOWS and how far off
    private static void hearing() {
        // a JUDGE's step on FLOOR 0 is 6 loud; the last d at which each KIND HEARS it
        int[] last = {5, 7, 4, 7, 11, 4};
        for (int kind = 0; kind < 6; kind++) {
            for (int c = 0; c < 20; c++) {
                IronStairs x = goers(3, 3, 0);
                x.window(kind, c);
                int d = c / 4 + 3 - c % 4;
                due("KIND " + kind + " at " + c + " HEARS 6", x.about(0, 2), d <= last[kind] ? 1 : 0);
            }
        }
        // a FUR's step there is 0 loud: a LAMP alone HEARS it, if it is near
        for (int kind = 0; kind < 6; kind++) {
            for (int c = 0; c < 3; c++) {
                IronStairs x = goers(4, 0, 3);
                x.window(kind, c);
                due("KIND " + kind + " at " + c + " HEARS 0", x.about(0, 2), kind == 3 && c <= 1 ? 1 : 0);
            }
        }
        // a BOOT's step on FLOOR 2 is 4 loud: a PLAIN WINDOW HEARS it 3 off, FLOORS and COLUMNS together
        for (int c = 0; c < 20; c++) {
            IronStairs x = goers(1, 9, 11);
            x.window(0, c);
            int d = Math.abs(c / 4 - 2) + Math.abs(c % 4 - 1);
            due("PLAIN at " + c + " HEARS 4 at 9", x.about(0, 2), d <= 3 ? 1 : 0);
        }
        IronStairs x = goers(1, 0, 1, 1, 2, 2, 3, 3, 0, 1, 0, 19);
        x.window(0, 0);
        x.window(3, 2);
        due("those who stay are not heard", x.about(0, 2), 1 | 4);
        due("by a LAMP neither", x.about(1, 2), 1 | 4);
        x = goers(0, 1, 2);
        x.window(0, 2);
        x.window(0, 1);
        due("off from the CELL from which the step is made", x.about(0, 2), 0);
        due("off from the CELL from which the step is made", x.about(1, 2), 1);
    }

    // Promise 16
    private static void far() {
        IronStairs x = told("back;ladder 3;ladder 4;ladder 0;draw 2;");
        due("far(0, 0)", x.far(0, 0), 0);
        due("far(0, 3)", x.far(0, 3), 3);
        due("far(0, 4)", x.far(0, 4), 7);
        due("far(0, 8)", x.far(0, 8), 8);
        due("far(11, 1)", x.far(11, 1), 3 + 1 + 3 + 1 + 2);
        due("far(0, 12)", x.far(0, 12), NONE);
        due("far(12, 15)", x.far(12, 15), 3);
        due("far(3, 4): no way around the end of a FLOOR", x.far(3, 4), 4);
        due("far(-1, 0)", x.far(-1, 0), BAD);
        due("far(0, 20)", x.far(0, 20), BAD);
        due("far(HIGH, LOW)", x.far(HIGH, LOW), BAD);
        x.draws(2);
        due("far(0, 4), let down", x.far(0, 4), 1);
        refusals("far", x, 3, 0, 0);
    }

    // Promise 17
    private static void where() {
        IronStairs x = told("back;ladder 1;goer 0 0 7;");
        int[] way = {0, 1, 5, 6, 7, 7, 7};
        for (int m = 0; m < way.length; m++) due("where(0, " + m + ")", x.where(0, m), way[m]);
        due("where(0, 60)", x.where(0, 60), 7);
        due("where(0, 61)", x.where(0, 61), BAD);
        due("where(0, -1)", x.where(0, -1), BAD);
        due("where(1, 0)", x.where(1, 0), BAD);
        due("where(-1, 0)", x.where(-1, 0), BAD);
        due("nothing is changed", x.of(0, 3), 0);
        due("nor the MINUTE", x.count(3), 0);
        refusals("where", x, 4, 0, 0);
    }

    // Promise 18
    private static void meet() {
        IronStairs x = goers(0, 0, 3, 0, 2, 0, 0, 3, 0, 0, 3, 3, 0, 0, 1);
        due("meet(0, 1)", x.meet(0, 1), 1);
        due("meet(1, 0)", x.meet(1, 0), 1);
        due("past one another", x.meet(0, 2), NONE);
        due("at the end", x.meet(0, 3), 3);
        due("now", x.meet(0, 4), 0);
        due("now", x.meet(2, 3), 0);
        IronStairs apart = goers(0, 0, 0, 0, 1, 1);
        due("never", apart.meet(0, 1), NONE);
        due("never", apart.meet(1, 0), NONE);
        due("alike", x.meet(1, 1), BAD);
        due("meet(0, 5)", x.meet(0, 5), BAD);
        due("meet(-1, 0)", x.meet(-1, 0), BAD);
        refusals("meet", x, 3, 0, 0);
    }

    // Promise 19
    private static void waits() {
        // 0 goes 0 1 2 3, 1 goes 3 2 1 0: past one another, unless one waits
        IronStairs x = goers(0, 0, 3, 0, 3, 0, 0, 2, 2, 0, 12, 15);
        due("waits(0, 1, 1)", x.waits(0, 1, 1), 1);
        due("waits(0, 1, 0)", x.waits(0, 1, 0), 0);
        due("waits(0, 2, 1)", x.waits(0, 2, 1), 0);
        due("who is on the way is always met", x.waits(0, 2, 0), NONE);
        due("waits(0, 3, 0)", x.waits(0, 3, 0), 0);
        due("another FLOOR: never", x.waits(0, 3, 1), NONE);
        due("alike", x.waits(0, 0, 1), BAD);
        due("waits(0, 4, 1)", x.waits(0, 4, 1), BAD);
        due("waits(-1, 0, 1)", x.waits(-1, 0, 1), BAD);
        due("waits(0, 1, 2)", x.waits(0, 1, 2), BAD);
        due("waits(0, 1, -1)", x.waits(0, 1, -1), BAD);
        refusals("waits", x, 5, 0, 0);
        // who stays is met at once: at 2 and at 2, one going on to 3 and one to 0
        x = goers(0, 2, 3, 0, 2, 0);
        due("in one CELL now", x.waits(0, 1, 0), NONE);
        // 1 goes 3 2, there he stays: 0, from 0 to 1, never comes; from 0 to 2 he comes, however long he waits
        x = goers(0, 0, 1, 0, 3, 2);
        due("never", x.waits(0, 1, 1), NONE);
        x = goers(0, 0, 2, 0, 3, 2);
        due("always", x.waits(0, 1, 0), NONE);
    }

    // Promise 20
    private static void down() {
        IronStairs x = told("back;ladder 3;ladder 4;goer 0 8 8;goer 0 2 19;goer 0 12 0;goer 0 7 7;");
        due("down(0)", x.down(0), 1 + 3 + 1);
        due("down(1)", x.down(1), 4);
        x.draws(0);
        due("down(0), drawn up", x.down(0), 0);
        due("down(1), drawn up", x.down(1), 1 | 4 | 8);
        due("down(2)", x.down(2), BAD);
        due("down(-1)", x.down(-1), BAD);
        refusals("down", x, 2, 0, 0);
        due("nobody", new IronStairs().down(0), 0);
        due("nobody", new IronStairs().down(1), 0);
        x = told("back;ladder 1;ladder 2;goer 0 6 6;goer 0 7 7;");
        due("the nearest of the ladders", x.down(0), 2);
        for (int c = 0; c < 4; c++) {
            x = new IronStairs();
            x.ladder(c);
            x.goer(0, 4 + c, 0);
            due("straight down to " + c, x.down(0), 1);
        }
    }

    // Promise 21
    private static void cut() {
        IronStairs x = told("back;ladder 0;ladder 4;ladder 8;goer 0 4 0;goer 0 8 0;goer 0 12 0;goer 0 16 0;");
        due("cut(0)", x.cut(0), 0);
        due("cut(1): with those who have none anyway", x.cut(1), 4);
        x.draws(0);
        due("of like ones the first that is down", x.cut(0), 1);
        due("all have none", x.cut(1), 4);
        x.draws(0);
        x.ladder(3);
        due("two ladders there", x.cut(0), 1);
        due("cut(1)", x.cut(1), 3);
        x.draws(1);
        x.draws(2);
        due("none does more than another", x.cut(0), 0);
        due("cut(1)", x.cut(1), 3);
        x.draws(0);
        x.draws(3);
        due("no LADDER is down", x.cut(0), NONE);
        due("no LADDER is down", x.cut(1), NONE);
        due("cut(2)", x.cut(2), BAD);
        due("cut(-1)", x.cut(-1), BAD);
        refusals("cut", x, 2, 0, 0);
        x = new IronStairs();
        x.ladder(7);
        due("nobody", x.cut(0), 0);
        due("nobody", x.cut(1), 0);
    }

    // Promise 22
    private static void doors() {
        IronStairs x = new IronStairs();
        due("nobody", x.doors(NONE), 0);
        due("doors(0) of nobody", x.doors(0), -10);
        x = goers(0, 0, 3, 0, 1, 2, 0, 3, 0);
        x.minutes(3);
        // they stand at 3, 2, 0, the homes are 0, 1, 3
        due("how much", x.doors(NONE), 1);
        due("doors(0)", x.doors(0), 2);
        due("doors(1)", x.doors(1), 1);
        due("doors(2)", x.doors(2), 0);
        due("doors(3)", x.doors(3), -10);
        due("doors(-2)", x.doors(-2), -10);
        refusals("doors", x, 2, 0, 0);
        // they stand at 2, 3, the homes are 0, 1: either way 4
        x = goers(0, 0, 2, 0, 1, 3);
        x.minutes(2);
        due("how much", x.doors(NONE), 4);
        due("the first such way", x.doors(0), 0);
        due("the first such way", x.doors(1), 1);
        x.image(0);
        x.goer(0, 5, 5);
        due("three of them", x.doors(NONE), 4);
        x.from(0);
        due("two of them", x.doors(NONE), 4);
        x.back();
        due("nobody", x.doors(NONE), 0);
        x = told("back;ladder 0;goer 0 0 4;goer 0 1 1;minutes 1;draw 0;");
        due("by no way", x.doors(NONE), -6);
        due("by no way", x.doors(1), -6);
        due("by no way, but not as told", x.doors(2), -10);
        refusals("none is not refused", x, 1, 0, 0);
    }

    // Promises 23 and 24
    private static void soundAndWho() {
        IronStairs x = told("back;window 0 0;window 0 3;goer 0 0 3;goer 1 0 3;goer 0 3 0;goer 0 1 1;");
        due("no SOUNDS: all", x.who(), 15);
        int[][] bad = {{-1, 0, 1}, {2, 0, 1}, {0, -1, 1}, {0, 31, 1}, {0, 0, 0}, {0, 0, 21}};
        for (int[] b : bad) due("sound, bad", x.sound(b[0], b[1], b[2]), BAD);
        due("sound(0, 0, 1)", x.sound(0, 0, 1), 1);
        due("1 loud at 0 now", x.who(), 1);
        x.forget(0);
        due("sound(0, 0, 3)", x.sound(0, 0, 3), 1);
        due("3 loud at 0 now", x.who(), 2);
        x.forget(0);
        due("sound(1, 2, 3)", x.sound(1, 2, 3), 1);
        due("3 loud at 3 behind 2", x.who(), 2);
        x.sound(0, 2, 3);
        due("and at 0", x.who(), 2);
        x.sound(1, 0, 3);
        due("and at 3 now", x.who(), 0);
        x.forget(0);
        x.sound(1, 3, 3);
        due("behind 3 they stay", x.who(), 0);
        x.forget(0);
        x.sound(0, 2, 1);
        due("1 loud at 0 behind 2", x.who(), 0);
        x.minutes(2);
        due("as all go from when it is asked", x.who(), 0);
        x.forget(0);
        x.sound(0, 0, 1);
        due("from 1, 2 loud there", x.who(), 0);
        x.forget(0);
        x.sound(1, 0, 3);
        due("asked two minutes later", x.who(), 2);
        for (int n = 2; n <= 5; n++) due("sound " + n, x.sound(0, 30, 20), n);
        due("a 6th", x.sound(0, 30, 20), FULL);
        due("a 6th, bad", x.sound(0, 31, 20), BAD);
        refusals("sounds", x, 7, 0, 1);
        // a COOK steps 3 loud in even MINUTES, 2 in odd ones
        x = told("back;window 4 0;goer 5 0 3;minutes 1;");
        x.sound(0, 0, 2);
        x.sound(0, 1, 3);
        due("by the MINUTE", x.who(), 1);
        due("nobody", new IronStairs().who(), 0);
    }

    // Promises 25, 28 and 29
    private static void noteIsLook() {
        IronStairs x = goers(0, 0, 0, 0, 0, 0);
        int[][] bad = {{-1, 0, 0, 0}, {2, 0, 0, 0}, {0, -1, 0, 0}, {0, 5, 0, 0}, {0, 0, -1, 0}, {0, 0, 100, 0},
            {0, 0, 0, -1}, {0, 0, 0, 21}};
        for (int[] b : bad) due("note, bad", x.note(b[0], b[1], b[2], b[3]), BAD);
        due("no NOTES: all", x.is(0), 63);
        // on FLOOR 0, even: 1 3 0 6 0 3, at most two alike; nowhere less
        due("look(0)", x.look(0), 0);
        due("note", x.note(0, 0, 98, 3), 1);
        due("3 loud on FLOOR 0, even: BOOT, COOK", x.is(0), 1 << 1 | 1 << 5);
        due("of the other, no NOTES", x.is(1), 63);
        due("they differ in an odd MINUTE", x.look(0), 1);
        due("note", x.note(0, 4, 99, 4), 2);
        due("4 loud on FLOOR 4, odd: COOK", x.is(0), 1 << 5);
        due("one KIND: the least look", x.look(0), 0);
        due("note", x.note(0, 0, 0, 20), 3);
        due("no KIND", x.is(0), 0);
        due("no KIND", x.look(0), NONE);
        due("note", x.note(1, 2, 0, 4), 4);
        due("4 loud on FLOOR 2, even: BOOT, JUDGE, COOK", x.is(1), 1 << 1 | 1 << 3 | 1 << 5);
        due("all differ on FLOOR 0, odd", x.look(1), 1);
        x.note(1, 2, 1, 4);
        due("BOOT, JUDGE", x.is(1), 1 << 1 | 1 << 3);
        due("they differ on FLOOR 0 alone", x.look(1), 0);
        due("note", x.note(1, 0, 0, 6), 6);
        due("a 7th", x.note(0, 0, 0, 0), FULL);
        due("a 7th, bad", x.note(0, 0, 0, 21), BAD);
        due("is(-1)", x.is(-1), BAD);
        due("is(2)", x.is(2), BAD);
        due("look(-1)", x.look(-1), BAD);
        due("look(2)", x.look(2), BAD);
        refusals("notes", x, 13, 0, 1);
        x = goers(0, 0, 0);
        x.note(0, 0, 0, 0);
        due("0 loud: CHILD, FUR", x.is(0), 1 << 2 | 1 << 4);
        due("they differ in an odd MINUTE", x.look(0), 1);
        x.forget(1);
        x.note(0, 3, 1, 2);
        due("2 loud on FLOOR 3, odd: SLIPPER, CHILD", x.is(0), 1 | 1 << 2);
        due("they differ in an even MINUTE", x.look(0), 0);
    }

    // Promises 26, 30 and 31
    private static void markKindsAsk() {
        IronStairs x = new IronStairs();
        x.window(0, 0);
        x.window(0, 0);
        int[][] bad = {{-1, 0, 0, 0}, {2, 0, 0, 0}, {0, -1, 0, 0}, {0, 21, 0, 0}, {0, 0, -1, 0}, {0, 0, 8, 0},
            {0, 0, 0, -1}, {0, 0, 0, 2}};
        for (int[] b : bad) due("mark, bad", x.mark(b[0], b[1], b[2], b[3]), BAD);
        due("no MARKS: all", x.kinds(0), 63);
        // 1 loud, 1 off: LIGHT, LAMP, DOG hear 2, 1, 3; the others none
        due("ask(0)", x.ask(0), 11);
        due("mark", x.mark(0, 1, 1, 1), 1);
        due("LIGHT, LAMP, DOG", x.kinds(0), 1 << 1 | 1 << 3 | 1 << 4);
        due("of the other, no MARKS", x.kinds(1), 63);
        due("0 loud, 0 off: LAMP alone hears, two to one", x.ask(0), 0);
        due("mark", x.mark(0, 0, 1, 0), 2);
        due("LIGHT, DOG", x.kinds(0), 1 << 1 | 1 << 4);
        due("1 loud, 3 off: DOG alone hears", x.ask(0), 13);
        due("mark", x.mark(0, 1, 3, 1), 3);
        due("DOG", x.kinds(0), 1 << 4);
        due("one KIND: the least", x.ask(0), 0);
        due("mark", x.mark(0, 20, 7, 0), 4);
        due("no KIND", x.kinds(0), 0);
        due("no KIND", x.ask(0), NONE);
        due("mark", x.mark(1, 1, 0, 0), 5);
        due("1 loud, 0 off not heard: DEAF hears it (half of 1 is 0: no)", x.kinds(1), 1 << 2 | 1 << 5);
        due("DEAF and OLD hear alike: 2 to 0 anywhere", x.ask(1), 0);
        due("mark", x.mark(1, 2, 0, 1), 6);
        due("DEAF, OLD", x.kinds(1), 1 << 2 | 1 << 5);
        due("a 7th", x.mark(0, 0, 0, 0), FULL);
        due("a 7th, bad", x.mark(0, 0, 0, 2), BAD);
        due("kinds(-1)", x.kinds(-1), BAD);
        due("kinds(2)", x.kinds(2), BAD);
        due("ask(-1)", x.ask(-1), BAD);
        due("ask(2)", x.ask(2), BAD);
        refusals("marks", x, 13, 0, 1);
        x = new IronStairs();
        x.window(0, 0);
        x.mark(0, 1, 1, 0);
        due("PLAIN, DEAF, OLD", x.kinds(0), 1 | 1 << 2 | 1 << 5);
        due("1 loud, 0 off: PLAIN alone hears", x.ask(0), 10);
        x.forget(2);
        x.mark(0, 1, 2, 1);
        due("LIGHT, LAMP, DOG", x.kinds(0), 1 << 1 | 1 << 3 | 1 << 4);
    }

    // Promise 27
    private static void forget() {
        IronStairs x = goers(0, 0, 0);
        x.window(0, 0);
        x.sound(0, 0, 1);
        x.note(0, 0, 0, 1);
        x.note(0, 0, 0, 1);
        x.mark(0, 0, 0, 1);
        x.mark(0, 0, 0, 1);
        x.mark(0, 0, 0, 1);
        due("forget(-1)", x.forget(-1), BAD);
        due("forget(3)", x.forget(3), BAD);
        counts("told", x, 1, 0, 1, 0, 1, 1, 2, 3);
        due("forget(1)", x.forget(1), 2);
        counts("NOTES gone", x, 1, 0, 1, 0, 1, 1, 0, 3);
        due("forget(2)", x.forget(2), 3);
        counts("MARKS gone", x, 1, 0, 1, 0, 1, 1, 0, 0);
        due("forget(0)", x.forget(0), 1);
        counts("SOUNDS gone", x, 1, 0, 1, 0, 1, 0, 0, 0);
        due("forget(0) of none", x.forget(0), 0);
        refusals("forget", x, 2, 0, 0);
    }

    // Promise 32
    private static void shy() {
        // on two floors they never meet: no stay of 3 or more rests
        IronStairs x = goers(0, 0, 3, 0, 4, 7);
        int[] rest = {0, 1, 2, 10, 11, 12, 20, 21, 22};
        due("how many", x.shy(0, 1, NONE), 9);
        for (int k = 0; k < 9; k++) due("the k-th", x.shy(0, 1, k), rest[k]);
        due("not so many", x.shy(0, 1, 9), -5);
        due("not so many", x.shy(0, 1, HIGH), -5);
        due("k below -1", x.shy(0, 1, -2), -10);
        due("alike", x.shy(1, 1, NONE), -10);
        due("shy(0, 2, -1)", x.shy(0, 2, NONE), -10);
        due("shy(-1, 0, -1)", x.shy(-1, 0, NONE), -10);
        refusals("shy: not so many is not refused", x, 4, 0, 0);
        // a goes 0 1 2 3, b goes 3 2 1 0: they meet if the stays differ by an odd number or by 3 and more: whoever
        // loses by it takes another stay
        x = goers(0, 0, 3, 0, 3, 0);
        due("nothing rests", x.shy(0, 1, NONE), 0);
        due("none to tell", x.shy(0, 1, 0), -5);
        // they end in one cell: a has his 5, b goes without, whatever the stays
        x = goers(0, 0, 3, 0, 1, 3);
        due("how many", x.shy(0, 1, NONE), 9);
        due("the other way about", x.shy(1, 0, NONE), 9);
        // a goes 0 1 2, b goes 9 8 4 0
        x = told("back;ladder 0;ladder 4;goer 0 0 2;goer 0 9 0;");
        // a is at 0 up to minute i, b from minute 3 + j on: they meet if i is 3 + j or more: whoever loses by it
        // takes another stay
        due("shy", x.shy(0, 1, NONE), 0);
        x = told("back;ladder 0;goer 0 0 0;goer 0 4 4;");
        due("who stays for ever, stays as he likes", x.shy(0, 1, 8), 22);
    }

    // Promise 33
    private static void odds() {
        IronStairs x = told("back;ladder 0;ladder 1;ladder 4;ladder 12;draw 3;");
        due("odds", x.odds(0, 7, 5), 1);
        fraction("one of two", x, 3, 4);
        x.odds(7, 0, 5);
        fraction("down alike", x, 3, 4);
        x.odds(0, 8, 5);
        fraction("and one", x, 3, 8);
        x.odds(0, 11, 1);
        fraction("by 1 of 10", x, 891, 1000);
        x.odds(8, 12, 1);
        fraction("no ladder", x, 0, 1);
        x.odds(12, 16, 1);
        fraction("drawn up already", x, 0, 1);
        x.odds(12, 15, 10);
        fraction("along a FLOOR", x, 1, 1);
        x.odds(0, 4, 0);
        fraction("none is drawn up", x, 1, 1);
        x.odds(0, 4, 10);
        fraction("all are", x, 0, 1);
        x.odds(4, 0, 2);
        due("odds(20, 0, 0)", x.odds(20, 0, 0), BAD);
        due("odds(0, -1, 0)", x.odds(0, -1, 0), BAD);
        due("odds(0, 0, -1)", x.odds(0, 0, -1), BAD);
        due("odds(0, 0, 11)", x.odds(0, 0, 11), BAD);
        fraction("it stays", x, 24, 25);
        due("part(-1)", x.part(-1), BAD);
        due("part(2)", x.part(2), BAD);
        refusals("odds, part", x, 6, 0, 0);
        due("the LADDERS stay", x.rungs(0, 1), 1);
        x = told("back;ladder 0;ladder 1;ladder 2;ladder 4;ladder 5;ladder 8;");
        x.odds(0, 12, 7);
        fraction("six", x, 657L * 51 * 3, 1000000);
    }

    // Promise 34
    private static void nights() {
        // X: 5, then 5 * 1103515245 + 12345 by 2^31: 5517588570 - 2 * 2147483648 = 1222621274; by 65536: 18655, by 6: 1
        IronStairs x = told("back;goer 1 0 3;window 0 0;");
        due("no MINUTES", x.nights(5, 0), 0);
        // 3 loud from 0, 1 and 2: each heard at 0; nobody turns in the first minute
        due("one MINUTE", x.nights(5, 1), 1);
        x = told("back;goer 1 0 3;goer 1 3 0;window 0 0;window 4 3;");
        // goer 1 turns BACK, where he is already: he stays; goer 0 is heard at 0, and at 3 by the DOG
        due("one MINUTE with a turn", x.nights(5, 1), 2);
        x.turns(1);
        due("BACK already, so OUT then, which the DOG hears", x.nights(5, 1), 3);
        x.minutes(1);
        due("from where they are now", x.nights(5, 1), 2 + 1);
        x.undo();
        x.turns(1);
        long h = x.digest();
        due("no WINDOW", goers(1, 0, 3).nights(5, 60), 0);
        due("nights(-1, 0)", x.nights(-1, 0), BAD);
        due("nights(1000000, 0)", x.nights(1000000, 0), BAD);
        due("nights(0, -1)", x.nights(0, -1), BAD);
        due("nights(0, 61)", x.nights(0, 61), BAD);
        refusals("nights", x, 4, 0, 0);
        due("nothing is changed", x.digest(), h);
        // as it is told, by a slow run of the same calls on another object
        for (int seed = 0; seed < 40; seed++) {
            String text = "back;ladder 0;ladder 5;ladder 10;goer 1 0 10;goer 3 3 8;goer 2 13 1;goer 5 1 7;window 0 5;window 3 0;window 4 9;";
            IronStairs slow = told(text);
            long s = seed * 24989L;
            long heard = 0;
            for (int m = 0; m < 30; m++) {
                s = (s * 1103515245L + 12345) % (1L << 31);
                int turning = (int) (s / 65536 % 6);
                if (turning < 4) slow.turns(turning);
                for (int w = 0; w < 3; w++) heard += Integer.bitCount(slow.about(w, 2));
                slow.minutes(1);
            }
            due("nights by " + seed * 24989, told(text).nights(seed * 24989, 30), heard);
        }
    }

    // Promises 35, 36 and 37 (35 with odds)
    private static void images() {
        IronStairs x = told("back;ladder 0;goer 0 0 3;window 0 0;");
        x.sound(0, 1, 2);
        x.note(0, 1, 2, 3);
        x.mark(0, 1, 2, 1);
        x.minutes(1);
        x.turns(0);
        due("image(-1)", x.image(-1), BAD);
        due("image(2)", x.image(2), BAD);
        due("from(-1)", x.from(-1), BAD);
        due("from(2)", x.from(2), BAD);
        due("from(1), none kept", x.from(1), NO);
        refusals("images", x, 4, 1, 0);
        x.clear();
        long h = x.digest();
        due("image(1)", x.image(1), 1);
        due("from(0), none kept", x.from(0), NO);
        x.back();
        x.goer(1, 2, 3);
        due("image(0)", x.image(0), 1);
        due("from(1)", x.from(1), 1);
        due("all as it was", x.digest(), h);
        due("what may be undone, too", x.count(8), 2);
        due("undo", x.undo(), 1);
        due("undo", x.undo(), 0);
        due("where he was", x.of(0, 3), 0);
        due("from(1) again", x.from(1), 1);
        due("the image is as it was", x.digest(), h);
        x.odds(0, 0, 0);
        x.type('b');
        due("from(0)", x.from(0), 1);
        counts("the other image", x, 1, 0, 0, 0, 0, 0, 0, 0, 0, 1);
        fraction("THE FRACTION stays", x, 1, 1);
        refusals("STATUS stays", x, 4, 2, 0);
        x.goer(0, 0, 0);
        x.image(0);
        x.back();
        x.from(0);
        due("kept anew", x.count(0), 2);
    }

    // Promise 38
    private static void status() {
        IronStairs x = new IronStairs();
        due("status(3)", x.status(3), -1);
        due("status(-1)", x.status(-1), -1);
        due("status(LOW)", x.status(LOW), -1);
        refusals("counts as BAD", x, 3, 0, 0);
        x.doors(5);
        x.shy(0, 0, 0);
        refusals("-10 counts as BAD", x, 5, 0, 0);
        x.undo();
        x.from(1);
        refusals("NO", x, 5, 2, 0);
        x.far(0, 4);
        x.cut(0);
        x.read();
        refusals("NONE, a FAULT count as nothing", x, 5, 2, 0);
        for (int k = 0; k < 9; k++) x.ladder(k);
        for (int w = 0; w < 9; w++) x.window(w % 6, 0);
        refusals("FULL", x, 5, 2, 8);
        x.back();
        refusals("they stay", x, 5, 2, 8);
    }

    // Promise 39
    private static void count() {
        IronStairs x = told("back;ladder 3;goer 0 0 1;goer 0 5 5;goer 0 2 9;window 0 0;window 1 1;minutes 1;turn 0;");
        x.sound(1, 0, 1);
        x.note(0, 0, 0, 0);
        x.note(1, 0, 0, 0);
        x.mark(0, 0, 0, 0);
        x.mark(0, 0, 0, 0);
        x.mark(0, 0, 0, 0);
        x.turns(1);
        counts("count", x, 3, 1, 2, 1, 1, 1, 2, 3, 1, 86);
        x.turns(0);
        due("who turned is where he goes to", x.count(4), 2);
        due("count(-1)", x.count(-1), BAD);
        due("count(10)", x.count(10), BAD);
        refusals("count", x, 2, 0, 0);
    }

    // Promise 40
    private static void digest() {
        IronStairs x = told("back;ladder 3;ladder 7;draw 0;goer 4 5 6;goer 1 0 3;minutes 1;turn 1;window 2 13;");
        x.sound(0, 9, 8);
        x.sound(0, 7, 6);
        x.note(1, 2, 3, 4);
        x.mark(0, 15, 6, 1);
        x.turns(0);
        x.odds(4, 8, 3);
        long h = mix(1601, 2, 2, 1, 1, 0, 2, 1, 1, 1, 81);
        h = mix(h, 3, 0, 7, 1);
        h = mix(h, 4, 5, 6, 6, 1, 1, 0, 3, 1, 1);
        h = mix(h, 2, 13);
        h = mix(h, 0, 9, 8, 0, 7, 6);
        h = mix(h, 1, 2, 3, 4);
        h = mix(h, 0, 15, 6, 1);
        h = mix(h, 7, 10);
        due("digest()", x.digest(), h);
        due("and again", x.digest(), h);
    }
}
