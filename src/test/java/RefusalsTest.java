import java.util.ArrayList;
import java.util.List;

/** Each refusal of each call: its answer, that all else stays as it was, and what STATUS counts of it. */
public final class RefusalsTest {
    private static final int NONE = Sentences.NONE, BAD = Sentences.BAD, NO = Sentences.NO, FULL = Sentences.FULL;
    private static final int LOW = Sentences.LOW, HIGH = Sentences.HIGH;

    public static void main(String[] names) {
        Sentences.run(RefusalsTest.class, names);
    }

    // ---- three backs

    /** Some of everything, room for more: 2 LADDERS, 2 GOERS, 2 WINDOWS; both IMAGES, of other states; 3 to undo. */
    private static IronStairs some() {
        IronStairs x = Sentences.told("back;ladder 0;ladder 5;goer 1 0 9;goer 5 7 1;window 4 0;window 1 6;");
        x.minutes(1);
        x.sound(1, 2, 3);
        x.note(1, 2, 3, 4);
        x.image(0);
        x.turns(1);
        x.mark(1, 2, 3, 1);
        x.image(1);
        x.draws(1);
        x.minutes(1);
        x.turns(0);
        x.undo();
        x.odds(0, 4, 3);
        Sentences.type(x, "back;ladder 9;goer 3 2 1;");
        x.ladder(0);
        return x;
    }

    /** As much as there may be of everything. */
    private static IronStairs full() {
        IronStairs x = Sentences.full();
        for (int n = 0; n < 5; n++) x.sound(n % 4, n, 1 + n);
        for (int n = 0; n < 6; n++) x.note(n, n % 5, n, n);
        for (int n = 0; n < 6; n++) x.mark(n % 4, n, n, n % 2);
        x.image(1);
        for (int n = 0; n < 6; n++) x.turns(n);
        x.draws(2);
        x.image(0);
        x.minutes(3);
        x.minutes(60);
        x.odds(0, 8, 5);
        Sentences.type(x, "back;ladder 9;goer 3 2 1;" + " ".repeat(125));
        x.ladder(1);
        return x;
    }

    /** Nothing to undo, no image kept. */
    private static IronStairs bare() {
        IronStairs x = Sentences.told("back;ladder 0;goer 1 0 5;window 4 0;");
        x.odds(0, 4, 9);
        x.sound(0, 0, 3);
        return x;
    }

    // ---- how a refusal is looked at

    /** All that calls tell of an object, at last by undoing, going on from IMAGES, reading THE TEXT, emptying it. */
    private static List<Long> allOf(IronStairs x) {
        List<Long> all = new ArrayList<>();
        look(x, all);
        for (int i = 0; i < 2; i++) {
            for (int n = 0; n < 9; n++) {
                all.add((long) x.undo());
                all.add(x.digest());
            }
            all.add((long) x.from(i));
            look(x, all);
        }
        all.add((long) x.read());
        look(x, all);
        all.add((long) x.clear());
        return all;
    }

    private static void look(IronStairs x, List<Long> all) {
        all.add(x.digest());
        for (int what = 0; what < 10; what++) all.add((long) x.count(what));
        for (int what = 0; what < 2; what++) all.add(x.part(what));
        for (int i = 0; i < x.count(0); i++) all.add((long) x.of(i, 5));
        all.add((long) x.far(0, 19));
        all.add((long) x.who());
    }

    /** The call is refused as kind 0 BAD, 1 NO, 2 FULL: one more of these, and else nothing has changed. */
    private static void refused(Sentences.Making making, Sentences.Call call, String name, long answer, int kind) {
        IronStairs x = making.made();
        IronStairs twin = making.made();
        int[] before = {x.status(0), x.status(1), x.status(2)};
        Sentences.due(name, call.of(x), answer);
        for (int what = 0; what < 3; what++) {
            Sentences.due(name + ", then status(" + what + ")", x.status(what), before[what] + (what == kind ? 1 : 0));
        }
        List<Long> got = allOf(x);
        List<Long> want = allOf(twin);
        if (!got.equals(want)) Sentences.due(name + ", then all else: as it was", 0, 1);
    }

    private static void badAs(long answer, Sentences.Call... calls) {
        for (int n = 0; n < calls.length; n++) {
            refused(RefusalsTest::some, calls[n], "with room, call " + n, answer, 0);
            refused(RefusalsTest::full, calls[n], "full, call " + n, answer, 0);
            refused(RefusalsTest::bare, calls[n], "bare, call " + n, answer, 0);
        }
    }

    private static void bad(Sentences.Call... calls) {
        badAs(BAD, calls);
    }

    private static void isFull(Sentences.Call... calls) {
        for (int n = 0; n < calls.length; n++) refused(RefusalsTest::full, calls[n], "full, call " + n, FULL, 2);
    }

    // ---- a back

    @Sentences.Holds("Promise 3: BAD (changing nothing but STATUS)")
    private static void ladderBad() {
        bad(x -> x.ladder(-1), x -> x.ladder(16), x -> x.ladder(LOW), x -> x.ladder(HIGH), x -> x.ladder(0));
    }

    @Sentences.Holds("Promise 3: FULL (changing nothing but STATUS)")
    private static void ladderFull() {
        isFull(x -> x.ladder(1), x -> x.ladder(14));
    }

    @Sentences.Holds("Promise 4: BAD (changing nothing but STATUS)")
    private static void goerBad() {
        bad(x -> x.goer(-1, 0, 0), x -> x.goer(6, 0, 0), x -> x.goer(0, -1, 0), x -> x.goer(0, 20, 0), x -> x.goer(0, 0, -1),
            x -> x.goer(0, 0, 20), x -> x.goer(LOW, HIGH, LOW));
    }

    @Sentences.Holds("Promise 4: FULL (changing nothing but STATUS)")
    private static void goerFull() {
        isFull(x -> x.goer(0, 0, 0), x -> x.goer(5, 19, 19));
    }

    @Sentences.Holds("Promise 5: BAD (changing nothing but STATUS)")
    private static void windowBad() {
        bad(x -> x.window(-1, 0), x -> x.window(6, 0), x -> x.window(0, -1), x -> x.window(0, 20), x -> x.window(HIGH, LOW));
    }

    @Sentences.Holds("Promise 5: FULL (changing nothing but STATUS)")
    private static void windowFull() {
        isFull(x -> x.window(0, 0), x -> x.window(5, 19));
    }

    @Sentences.Holds("Promise 6: BAD (changing nothing but STATUS)")
    private static void typeBad() {
        bad(x -> x.type(-1), x -> x.type(128), x -> x.type(LOW), x -> x.type(HIGH));
    }

    @Sentences.Holds("Promise 6: FULL (changing nothing but STATUS)")
    private static void typeFull() {
        isFull(x -> x.type(0), x -> x.type(';'), x -> x.type(127));
    }

    // ---- minutes

    @Sentences.Holds("Promise 9: BAD (changing nothing but STATUS)")
    private static void minutesBad() {
        bad(x -> x.minutes(0), x -> x.minutes(61), x -> x.minutes(-1), x -> x.minutes(LOW), x -> x.minutes(HIGH));
    }

    @Sentences.Holds("Promise 10: BAD (changing nothing but STATUS)")
    private static void turnsBad() {
        bad(x -> x.turns(-1), x -> x.turns(6), x -> x.turns(LOW), x -> x.turns(HIGH), x -> x.turns(x.count(0)));
    }

    @Sentences.Holds("Promise 11: BAD (changing nothing but STATUS)")
    private static void drawsBad() {
        bad(x -> x.draws(-1), x -> x.draws(6), x -> x.draws(LOW), x -> x.draws(HIGH), x -> x.draws(x.count(1)));
    }

    @Sentences.Holds("Promise 12: NO: none may be (changing nothing but STATUS)")
    private static void undoNo() {
        refused(RefusalsTest::bare, x -> x.undo(), "undo()", NO, 1);
        refused(IronStairs::new, x -> x.undo(), "undo() of a new one", NO, 1);
        refused(() -> {
            IronStairs x = full();
            while (x.count(8) > 0) x.undo();
            return x;
        }, x -> x.undo(), "undo() behind eight", NO, 1);
    }

    @Sentences.Holds("Promise 13: BAD (changing nothing but STATUS)")
    private static void ofBad() {
        bad(x -> x.of(-1, 0), x -> x.of(6, 0), x -> x.of(x.count(0), 3), x -> x.of(0, -1), x -> x.of(0, 7), x -> x.of(LOW, HIGH));
    }

    @Sentences.Holds("Promise 14: BAD (changing nothing but STATUS)")
    private static void aboutBad() {
        bad(x -> x.about(-1, 0), x -> x.about(4, 0), x -> x.about(x.count(2), 2), x -> x.about(0, -1), x -> x.about(0, 3),
            x -> x.about(HIGH, LOW));
    }

    @Sentences.Holds("Promise 15: BAD (changing nothing but STATUS)")
    private static void rungsBad() {
        bad(x -> x.rungs(-1, 0), x -> x.rungs(6, 0), x -> x.rungs(x.count(1), 1), x -> x.rungs(0, -1), x -> x.rungs(0, 2),
            x -> x.rungs(HIGH, LOW));
    }

    // ---- ways

    @Sentences.Holds("Promise 16: BAD (changing nothing but STATUS)")
    private static void farBad() {
        bad(x -> x.far(-1, 0), x -> x.far(20, 0), x -> x.far(0, -1), x -> x.far(0, 20), x -> x.far(LOW, HIGH));
    }

    @Sentences.Holds("Promise 17: BAD (changing nothing but STATUS)")
    private static void whereBad() {
        bad(x -> x.where(-1, 0), x -> x.where(6, 0), x -> x.where(x.count(0), 0), x -> x.where(0, -1), x -> x.where(0, 61),
            x -> x.where(LOW, HIGH));
    }

    @Sentences.Holds("Promise 18: BAD: alike, too (changing nothing but STATUS)")
    private static void meetBad() {
        bad(x -> x.meet(-1, 0), x -> x.meet(0, -1), x -> x.meet(x.count(0), 0), x -> x.meet(0, x.count(0)), x -> x.meet(0, 0),
            x -> x.meet(LOW, LOW), x -> x.meet(HIGH, 0));
    }

    @Sentences.Holds("Promise 19: BAD: alike, too (changing nothing but STATUS)")
    private static void waitsBad() {
        bad(x -> x.waits(-1, 0, 1), x -> x.waits(0, -1, 0), x -> x.waits(x.count(0), 0, 1), x -> x.waits(0, x.count(0), 0),
            x -> x.waits(0, 0, 1), x -> x.waits(LOW, HIGH, 0));
        refused(RefusalsTest::some, x -> x.waits(0, 1, -1), "waits(0, 1, -1)", BAD, 0);
        refused(RefusalsTest::some, x -> x.waits(0, 1, 2), "waits(0, 1, 2)", BAD, 0);
    }

    @Sentences.Holds("Promise 20: BAD (changing nothing but STATUS)")
    private static void downBad() {
        bad(x -> x.down(-1), x -> x.down(2), x -> x.down(LOW), x -> x.down(HIGH));
    }

    @Sentences.Holds("Promise 21: BAD (changing nothing but STATUS)")
    private static void cutBad() {
        bad(x -> x.cut(-1), x -> x.cut(2), x -> x.cut(LOW), x -> x.cut(HIGH));
    }

    @Sentences.Holds("Promise 22: BAD: -10 (changing nothing but STATUS, where it counts as BAD)")
    private static void doorsBad() {
        badAs(-10, x -> x.doors(-2), x -> x.doors(6), x -> x.doors(x.count(0)), x -> x.doors(LOW), x -> x.doors(HIGH));
    }

    // ---- who it was

    @Sentences.Holds("Promise 23: BAD (changing nothing but STATUS)")
    private static void soundBad() {
        bad(x -> x.sound(-1, 0, 1), x -> x.sound(4, 0, 1), x -> x.sound(x.count(2), 0, 1), x -> x.sound(0, -1, 1),
            x -> x.sound(0, 31, 1), x -> x.sound(0, 0, 0), x -> x.sound(0, 0, 21), x -> x.sound(LOW, HIGH, LOW));
    }

    @Sentences.Holds("Promise 23: FULL (changing nothing but STATUS)")
    private static void soundFull() {
        isFull(x -> x.sound(0, 0, 1), x -> x.sound(3, 30, 20));
    }

    @Sentences.Holds("Promise 25: BAD (changing nothing but STATUS)")
    private static void noteBad() {
        bad(x -> x.note(-1, 0, 0, 0), x -> x.note(x.count(0), 0, 0, 0), x -> x.note(0, -1, 0, 0), x -> x.note(0, 5, 0, 0),
            x -> x.note(0, 0, -1, 0), x -> x.note(0, 0, 100, 0), x -> x.note(0, 0, 0, -1), x -> x.note(0, 0, 0, 21));
    }

    @Sentences.Holds("Promise 25: FULL (changing nothing but STATUS)")
    private static void noteFull() {
        isFull(x -> x.note(0, 0, 0, 0), x -> x.note(5, 4, 99, 20));
    }

    @Sentences.Holds("Promise 26: BAD (changing nothing but STATUS)")
    private static void markBad() {
        bad(x -> x.mark(-1, 0, 0, 0), x -> x.mark(x.count(2), 0, 0, 0), x -> x.mark(0, -1, 0, 0), x -> x.mark(0, 21, 0, 0),
            x -> x.mark(0, 0, -1, 0), x -> x.mark(0, 0, 8, 0), x -> x.mark(0, 0, 0, -1), x -> x.mark(0, 0, 0, 2));
    }

    @Sentences.Holds("Promise 26: FULL (changing nothing but STATUS)")
    private static void markFull() {
        isFull(x -> x.mark(0, 0, 0, 0), x -> x.mark(3, 20, 7, 1));
    }

    @Sentences.Holds("Promise 27: BAD (changing nothing but STATUS)")
    private static void forgetBad() {
        bad(x -> x.forget(-1), x -> x.forget(3), x -> x.forget(LOW), x -> x.forget(HIGH));
    }

    @Sentences.Holds("Promise 28: BAD (changing nothing but STATUS)")
    private static void isBad() {
        bad(x -> x.is(-1), x -> x.is(6), x -> x.is(x.count(0)), x -> x.is(LOW), x -> x.is(HIGH));
    }

    @Sentences.Holds("Promise 29: BAD (changing nothing but STATUS)")
    private static void lookBad() {
        bad(x -> x.look(-1), x -> x.look(6), x -> x.look(x.count(0)), x -> x.look(LOW), x -> x.look(HIGH));
    }

    @Sentences.Holds("Promise 30: BAD (changing nothing but STATUS)")
    private static void kindsBad() {
        bad(x -> x.kinds(-1), x -> x.kinds(4), x -> x.kinds(x.count(2)), x -> x.kinds(LOW), x -> x.kinds(HIGH));
    }

    @Sentences.Holds("Promise 31: BAD (changing nothing but STATUS)")
    private static void askBad() {
        bad(x -> x.ask(-1), x -> x.ask(4), x -> x.ask(x.count(2)), x -> x.ask(LOW), x -> x.ask(HIGH));
    }

    @Sentences.Holds("Promise 32: BAD: -10: alike a, b, k below -1, too (changing nothing but STATUS, where it counts as BAD)")
    private static void shyBad() {
        badAs(-10, x -> x.shy(-1, 0, NONE), x -> x.shy(0, -1, NONE), x -> x.shy(x.count(0), 0, NONE), x -> x.shy(0, x.count(0), 0),
            x -> x.shy(0, 0, NONE), x -> x.shy(0, 1, -2), x -> x.shy(0, 1, LOW), x -> x.shy(HIGH, LOW, 0));
    }

    @Sentences.Holds("Promise 33: BAD (changing nothing but STATUS: THE FRACTION stays)")
    private static void oddsBad() {
        bad(x -> x.odds(-1, 0, 0), x -> x.odds(20, 0, 0), x -> x.odds(0, -1, 0), x -> x.odds(0, 20, 0), x -> x.odds(0, 0, -1),
            x -> x.odds(0, 0, 11), x -> x.odds(LOW, HIGH, LOW));
    }

    @Sentences.Holds("Promise 34: BAD (changing nothing but STATUS)")
    private static void nightsBad() {
        bad(x -> x.nights(-1, 0), x -> x.nights(1000000, 0), x -> x.nights(0, -1), x -> x.nights(0, 61), x -> x.nights(LOW, HIGH));
    }

    // ---- what there is

    @Sentences.Holds("Promise 35: BAD (changing nothing but STATUS)")
    private static void partBad() {
        bad(x -> x.part(-1), x -> x.part(2), x -> x.part(LOW), x -> x.part(HIGH));
    }

    @Sentences.Holds("Promise 36: BAD (changing nothing but STATUS: both IMAGES stay)")
    private static void imageBad() {
        bad(x -> x.image(-1), x -> x.image(2), x -> x.image(LOW), x -> x.image(HIGH));
    }

    @Sentences.Holds("Promise 37: BAD (changing nothing but STATUS)")
    private static void fromBad() {
        bad(x -> x.from(-1), x -> x.from(2), x -> x.from(LOW), x -> x.from(HIGH));
    }

    @Sentences.Holds("Promise 37: NO: none was kept (changing nothing but STATUS)")
    private static void fromNo() {
        refused(RefusalsTest::bare, x -> x.from(0), "from(0)", NO, 1);
        refused(RefusalsTest::bare, x -> x.from(1), "from(1)", NO, 1);
        for (int n = 0; n < 2; n++) {
            int other = n;
            refused(() -> {
                IronStairs x = bare();
                x.image(other);
                x.minutes(1);
                return x;
            }, x -> x.from(1 - other), "from(" + (1 - n) + ")", NO, 1);
        }
    }

    @Sentences.Holds("Promise 38: -1: another what (counts as BAD; changing nothing but STATUS)")
    private static void statusBad() {
        badAs(-1, x -> x.status(-1), x -> x.status(3), x -> x.status(LOW), x -> x.status(HIGH));
    }

    @Sentences.Holds("Promise 39: BAD (changing nothing but STATUS)")
    private static void countBad() {
        bad(x -> x.count(-1), x -> x.count(10), x -> x.count(LOW), x -> x.count(HIGH));
    }

    // ---- what status counts

    @Sentences.Holds("Terms: Refused .. the first of: BAD, NO, FULL: each call counts once, as what it is answered")
    private static void eachCallCountsOnce() {
        IronStairs x = full();
        Sentences.refusals("full", x, 0, 0, 1);
        x.ladder(16);
        x.goer(6, 20, 20);
        x.mark(9, 99, 99, 9);
        Sentences.refusals("wrong in many ways", x, 3, 0, 1);
        x.ladder(1);
        x.goer(0, 0, 0);
        x.window(0, 0);
        x.type(0);
        Sentences.refusals("full", x, 3, 0, 5);
        while (x.count(8) > 0) x.undo();
        x.undo();
        Sentences.refusals("none to undo", x, 3, 1, 5);
        x.status(3);
        Sentences.refusals("another what", x, 4, 1, 5);
    }

    @Sentences.Holds("Terms: STATUS: .. BAD, NO, FULL (each answer told so): NONE, -5, -6 and a FAULT are none of these")
    private static void otherAnswersCountAsNothing() {
        IronStairs x = Sentences.told("back;ladder 0;goer 0 0 4;goer 0 1 1;window 0 0;minutes 1;draw 0;");
        x.note(0, 0, 0, 20);
        x.mark(0, 20, 0, 0);
        x.clear();
        Sentences.due("far(0, 4)", x.far(0, 4), NONE);
        Sentences.due("meet(0, 1)", x.meet(0, 1), NONE);
        Sentences.due("waits(0, 1, 1)", x.waits(0, 1, 1), NONE);
        Sentences.due("cut(0)", x.cut(0), NONE);
        Sentences.due("doors(0)", x.doors(0), -6);
        Sentences.due("look(0)", x.look(0), NONE);
        Sentences.due("ask(0)", x.ask(0), NONE);
        Sentences.due("shy(0, 1, 99)", x.shy(0, 1, 99), -5);
        Sentences.due("read()", x.read(), -10);
        Sentences.refusals("none of these", x, 0, 0, 0);
    }

    @Sentences.Holds("Promise 2: All as at first (but for .. STATUS): nothing takes away what was counted")
    private static void nothingTakesAwayWhatWasCounted() {
        IronStairs x = full();
        x.ladder(16);
        x.minutes(1);
        x.undo();
        x.from(0);
        x.clear();
        Sentences.type(x, "back;");
        x.read();
        x.forget(0);
        x.back();
        Sentences.refusals("at last", x, 1, 0, 1);
    }
}
