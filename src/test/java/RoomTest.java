import com.sun.management.ThreadMXBean;
import java.lang.management.ManagementFactory;

/** LANGUAGE.md, rule 12, and the room that one run has: what 512 of the dearest calls of an object make all together. */
public final class RoomTest {
    /** Some 600,000 objects and arrays with 16 bytes ahead of each, 7.3 million fields and elements of at most 8 bytes. */
    private static final long ROOM = 600_000L * 16 + 7_300_000L * 8;
    private static final ThreadMXBean THREADS = (ThreadMXBean) ManagementFactory.getThreadMXBean();
    private static int wrong = 0;

    public static void main(String[] args) {
        room("minutes", x -> x.minutes(60));
        room("turns, undo", x -> x.turns(0) + x.undo());
        room("read", IronStairs::read);
        room("about", x -> x.about(1, 2));
        room("far", x -> x.far(19, 0));
        room("where", x -> x.where(5, 60));
        room("waits", x -> x.waits(2, 3, 1));
        room("down", x -> x.down(1));
        room("cut", x -> x.cut(0));
        room("doors", x -> x.doors(5));
        room("who", IronStairs::who);
        room("is, look", x -> x.is(5) + x.look(5));
        room("kinds, ask", x -> x.kinds(3) + x.ask(3));
        room("shy", x -> x.shy(0, 1, 99));
        room("odds", x -> x.odds(0, 19, 3));
        room("nights", x -> x.nights(999999, 60));
        room("image, from", x -> x.image(1) + x.from(1));
        room("digest", IronStairs::digest);
        System.out.println(wrong == 0 ? "there is room for all" : wrong + " kinds of calls make too much");
        if (wrong != 0) System.exit(1);
    }

    private static IronStairs full() {
        IronStairs x = Sentences.full();
        for (int n = 0; n < 5; n++) x.sound(n % 4, n, 1 + n);
        for (int n = 0; n < 6; n++) x.note(n, 0, 1, 1);
        for (int n = 0; n < 6; n++) x.mark(n % 4, 1, 1, 1);
        for (int n = 0; n < 8; n++) x.minutes(1);
        Sentences.type(x, "back;" + "minutes99;".repeat(14));
        return x;
    }

    private static void room(String name, Sentences.Call call) {
        IronStairs x = full();
        call.of(x);
        long thread = Thread.currentThread().getId();
        long before = THREADS.getThreadAllocatedBytes(thread);
        // a few, as an object is called 512 times at most and some of these are two calls
        for (int n = 0; n < 128; n++) call.of(x);
        long made = 4 * (THREADS.getThreadAllocatedBytes(thread) - before);
        if (made <= ROOM) return;
        wrong++;
        System.out.println(name + ": 512 calls make " + made + " bytes, more than " + ROOM);
    }
}
