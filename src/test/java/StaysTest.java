import java.util.ArrayList;
import java.util.LinkedHashMap;
import java.util.List;
import java.util.Map;

/** What each call that is taken leaves as it was: questions all, the others IMAGES, THE TEXT, THE FRACTION, STATUS. */
public final class StaysTest {
    private static final int NONE = Sentences.NONE;
    private static final String TEXT = "back;ladder 9;goer 3 2 1;";

    public static void main(String[] names) {
        Sentences.run(StaysTest.class, names);
    }

    // ---- the back

    /** Room for more of everything; one TEXT, another back; 2 calls refused as NO, 3 as BAD, 1 as FULL. */
    private static IronStairs busy() {
        IronStairs x = new IronStairs();
        x.undo();
        x.from(1);
        x.ladder(16);
        x.goer(6, 0, 0);
        x.minutes(0);
        Sentences.type(x, "back;ladder 0;ladder 5;goer 1 0 9;goer 5 7 1;window 4 0;window 1 6;minutes 1;");
        x.read();
        Sentences.type(x, TEXT);
        for (int n = 0; n < 7; n++) x.mark(n % 2, n, n, n % 2);
        x.forget(2);
        x.mark(1, 2, 3, 1);
        x.odds(0, 4, 3);
        return x;
    }

    /** The busy one when an IMAGE has just been kept of it: 0 on the way, or 0 on the way and 1 behind it. */
    private static IronStairs kept(int last) {
        IronStairs x = busy();
        x.sound(1, 2, 3);
        x.turns(1);
        x.image(0);
        if (last == 0) return x;
        x.note(1, 2, 3, 4);
        x.draws(1);
        x.image(1);
        return x;
    }

    /** The busy one with two IMAGES, unlike one another and what is now; 3 to undo. */
    private static IronStairs pictured() {
        IronStairs x = kept(1);
        x.minutes(1);
        return x;
    }

    // ---- how it is looked at

    private static void lookAtBack(IronStairs x, List<Long> all) {
        for (int what = 0; what < 9; what++) all.add((long) x.count(what));
        for (int i = 0; i < x.count(0); i++) {
            for (int what = 0; what < 7; what++) all.add((long) x.of(i, what));
            all.add((long) x.is(i));
        }
        for (int k = 0; k < x.count(1); k++) all.add((long) 2 * x.rungs(k, 0) + x.rungs(k, 1));
        for (int w = 0; w < x.count(2); w++) {
            for (int what = 0; what < 3; what++) all.add((long) x.about(w, what));
            all.add((long) x.kinds(w));
        }
        all.add((long) x.who());
    }

    private static void lookAtUndoing(IronStairs x, List<Long> all) {
        for (int n = 0; n < 8 && x.count(8) > 0; n++) {
            all.add((long) x.undo());
            for (int i = 0; i < x.count(0); i++) all.add(2L * x.of(i, 3) + x.of(i, 4));
            for (int k = 0; k < x.count(1); k++) all.add((long) x.rungs(k, 1));
        }
    }

    private static List<Long> now(IronStairs x) {
        List<Long> all = new ArrayList<>();
        all.add(x.digest());
        lookAtBack(x, all);
        lookAtUndoing(x, all);
        return all;
    }

    private static List<Long> image(IronStairs x, int i) {
        List<Long> all = new ArrayList<>();
        all.add((long) x.from(i));
        lookAtBack(x, all);
        lookAtUndoing(x, all);
        return all;
    }

    private static List<Long> text(IronStairs x) {
        List<Long> all = new ArrayList<>();
        all.add((long) x.read());
        lookAtBack(x, all);
        all.add((long) x.clear());
        return all;
    }

    private static void same(String name, List<Long> got, List<Long> want) {
        if (!got.equals(want)) Sentences.due(name + " as it was", 0, 1);
    }

    private static void imageStays(String name, Sentences.Call call, int i) {
        IronStairs x = pictured();
        call.of(x);
        same(name + ": image " + i, image(x, i), image(kept(i), i));
    }

    private static void statusStays(String name, Sentences.Making making, Sentences.Call call) {
        IronStairs x = making.made();
        call.of(x);
        Sentences.refusals(name, x, 3, 2, 1);
    }

    private static void fractionStays(String name, Sentences.Call call) {
        IronStairs x = pictured();
        call.of(x);
        Sentences.fraction(name, x, 7, 10);
    }

    private static void textStays(String name, Sentences.Call call) {
        IronStairs x = pictured();
        call.of(x);
        Sentences.due(name + ": count(9)", x.count(9), TEXT.length());
        IronStairs plain = new IronStairs();
        Sentences.type(plain, TEXT);
        same(name + ": THE TEXT", text(x), text(plain));
    }

    // ---- the calls

    /** All but image, from, type, clear, odds, whose own sentences tell what they change. */
    private static Map<String, Sentences.Call> changes() {
        Map<String, Sentences.Call> calls = new LinkedHashMap<>();
        calls.put("back()", x -> x.back());
        calls.put("ladder(9)", x -> x.ladder(9));
        calls.put("goer(3, 4, 5)", x -> x.goer(3, 4, 5));
        calls.put("window(3, 4)", x -> x.window(3, 4));
        calls.put("read()", x -> x.read());
        calls.put("minutes(3)", x -> x.minutes(3));
        calls.put("turns(1)", x -> x.turns(1));
        calls.put("draws(1)", x -> x.draws(1));
        calls.put("undo()", x -> x.undo());
        calls.put("sound(0, 0, 2)", x -> x.sound(0, 0, 2));
        calls.put("note(0, 0, 0, 3)", x -> x.note(0, 0, 0, 3));
        calls.put("mark(0, 0, 0, 0)", x -> x.mark(0, 0, 0, 0));
        for (int what = 0; what < 3; what++) {
            int kind = what;
            calls.put("forget(" + what + ")", x -> x.forget(kind));
        }
        return calls;
    }

    private static Map<String, Sentences.Call> questions() {
        Map<String, Sentences.Call> calls = new LinkedHashMap<>();
        for (int what = 0; what < 7; what++) {
            int n = what;
            calls.put("of(1, " + n + ")", x -> x.of(1, n));
        }
        for (int what = 0; what < 3; what++) {
            int n = what;
            calls.put("about(1, " + n + ")", x -> x.about(1, n));
        }
        for (int what = 0; what < 2; what++) {
            int n = what;
            calls.put("rungs(1, " + n + ")", x -> x.rungs(1, n));
            calls.put("waits(0, 1, " + n + ")", x -> x.waits(0, 1, n));
            calls.put("down(" + n + ")", x -> x.down(n));
            calls.put("cut(" + n + ")", x -> x.cut(n));
            calls.put("part(" + n + ")", x -> x.part(n));
        }
        calls.put("far(0, 19)", x -> x.far(0, 19));
        calls.put("where(0, 60)", x -> x.where(0, 60));
        calls.put("meet(0, 1)", x -> x.meet(0, 1));
        calls.put("doors(NONE)", x -> x.doors(NONE));
        calls.put("doors(1)", x -> x.doors(1));
        calls.put("who()", x -> x.who());
        calls.put("is(1)", x -> x.is(1));
        calls.put("look(1)", x -> x.look(1));
        calls.put("kinds(1)", x -> x.kinds(1));
        calls.put("ask(1)", x -> x.ask(1));
        calls.put("shy(0, 1, NONE)", x -> x.shy(0, 1, NONE));
        calls.put("shy(1, 0, 99)", x -> x.shy(1, 0, 99));
        calls.put("nights(999999, 60)", x -> x.nights(999999, 60));
        for (int what = 0; what < 3; what++) {
            int n = what;
            calls.put("status(" + n + ")", x -> x.status(n));
        }
        for (int what = 0; what < 10; what++) {
            int n = what;
            calls.put("count(" + n + ")", x -> x.count(n));
        }
        calls.put("digest()", x -> x.digest());
        return calls;
    }

    // ---- what stays

    @Sentences.Holds("Terms: Nothing is changed by these: the back, and what may be undone")
    private static void questionsLeaveTheBack() {
        questions().forEach((name, call) -> {
            IronStairs x = pictured();
            call.of(x);
            same(name + ": the back", now(x), now(pictured()));
        });
    }

    @Sentences.Holds("Terms: Nothing is changed by these: IMAGES")
    private static void questionsLeaveImages() {
        questions().forEach((name, call) -> {
            imageStays(name, call, 0);
            imageStays(name, call, 1);
        });
    }

    @Sentences.Holds("Terms: Nothing is changed by these: THE TEXT, THE FRACTION, STATUS")
    private static void questionsLeaveTheRest() {
        questions().forEach((name, call) -> {
            textStays(name, call);
            fractionStays(name, call);
            statusStays(name, StaysTest::pictured, call);
        });
    }

    @Sentences.Holds("Promise 37: NO: none was kept: no call but image keeps one")
    private static void onlyImageKeeps() {
        Map<String, Sentences.Call> calls = questions();
        calls.putAll(changes());
        calls.put("odds(0, 4, 5)", x -> x.odds(0, 4, 5));
        calls.put("type(32)", x -> x.type(32));
        calls.put("clear()", x -> x.clear());
        calls.forEach((name, call) -> {
            IronStairs x = busy();
            call.of(x);
            for (int i = 0; i < 2; i++) Sentences.due(name + ", then from(" + i + ")", x.from(i), Sentences.NO);
        });
    }

    @Sentences.Holds("Terms: IMAGES 0, 1 keep: what comes later does not change them")
    private static void changesLeaveImages() {
        Map<String, Sentences.Call> calls = changes();
        calls.put("odds(0, 4, 5)", x -> x.odds(0, 4, 5));
        calls.put("type(32)", x -> x.type(32));
        calls.put("clear()", x -> x.clear());
        calls.forEach((name, call) -> {
            imageStays(name, call, 0);
            imageStays(name, call, 1);
        });
        imageStays("image(1)", x -> x.image(1), 0);
        imageStays("image(0)", x -> x.image(0), 1);
        for (int i = 0; i < 2; i++) {
            imageStays("from(0)", x -> x.from(0), i);
            imageStays("from(1)", x -> x.from(1), i);
        }
    }

    @Sentences.Holds("Promise 6, 7: THE TEXT: type and clear alone change it")
    private static void changesLeaveTheText() {
        Map<String, Sentences.Call> calls = changes();
        calls.put("odds(0, 4, 5)", x -> x.odds(0, 4, 5));
        for (int i = 0; i < 2; i++) {
            int n = i;
            calls.put("image(" + n + ")", x -> x.image(n));
            calls.put("from(" + n + ")", x -> x.from(n));
        }
        calls.forEach((name, call) -> textStays(name, call));
    }

    @Sentences.Holds("Promise 33: ODDS are THE FRACTION: odds alone changes it")
    private static void changesLeaveTheFraction() {
        Map<String, Sentences.Call> calls = changes();
        calls.put("type(32)", x -> x.type(32));
        calls.put("clear()", x -> x.clear());
        for (int i = 0; i < 2; i++) {
            int n = i;
            calls.put("image(" + n + ")", x -> x.image(n));
            calls.put("from(" + n + ")", x -> x.from(n));
        }
        calls.forEach((name, call) -> fractionStays(name, call));
    }

    @Sentences.Holds("Terms: STATUS: how many calls were refused: those that are taken do not count, and take nothing away")
    private static void changesLeaveStatus() {
        Map<String, Sentences.Call> calls = changes();
        calls.put("odds(0, 4, 5)", x -> x.odds(0, 4, 5));
        calls.put("type(32)", x -> x.type(32));
        calls.put("clear()", x -> x.clear());
        for (int i = 0; i < 2; i++) {
            int n = i;
            calls.put("image(" + n + ")", x -> x.image(n));
            calls.put("from(" + n + ")", x -> x.from(n));
        }
        calls.forEach((name, call) -> statusStays(name, StaysTest::pictured, call));
    }

    @Sentences.Holds("Promise 33: ODDS are THE FRACTION: all else stays; Promise 6, 7: THE TEXT: all else stays")
    private static void oddsAndTextLeaveTheBack() {
        Map<String, Sentences.Call> calls = new LinkedHashMap<>();
        calls.put("odds(0, 4, 5)", x -> x.odds(0, 4, 5));
        calls.put("type(32)", x -> x.type(32));
        calls.put("clear()", x -> x.clear());
        calls.forEach((name, call) -> {
            List<List<Long>> seen = new ArrayList<>();
            for (int with = 0; with < 2; with++) {
                IronStairs x = pictured();
                if (with == 1) call.of(x);
                List<Long> all = new ArrayList<>();
                lookAtBack(x, all);
                lookAtUndoing(x, all);
                seen.add(all);
            }
            same(name + ": the back", seen.get(1), seen.get(0));
        });
    }
}
