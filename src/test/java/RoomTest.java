import com.sun.management.ThreadMXBean;
import java.lang.management.ManagementFactory;

/** All calls of one run live in one room: what an object and 512 calls of the dearest kinds make is counted. */
final class RoomTest {
    private static final ThreadMXBean THREADS = (ThreadMXBean) ManagementFactory.getThreadMXBean();
    private static final String[] RULES = {
        "in 0 x;in 0 y;in 0 z;if x+y+z>999", "in 1 x;out 1 x+1;empty 2", "in 1 x;out 2 x;out 1 x*7",
        "in 2 x;in 2 y;if x<y;out 3 x;out 3 y;out 9 1", "in 3 x;in 3 x;out 0 (x+(x-1))*2",
    };

    public static void main(String[] args) {
        Check check = new Check();
        check.about("the room");
        made(check, "a new object", 60000, 1, i -> new TokenNet());
        TokenNet net = new TokenNet();
        for (int part = 0; part < RULES.length; part++) {
            Check.rule(net, part, RULES[part]);
        }
        Check.put(net, 0, 1, 2, 3, 4, 5, 6);
        Check.put(net, 1, 1, 2, 3, 4, 5);
        made(check, "reach, stuck, walk", 2000, 512, i -> net.reach(60) + net.stuck(60) + net.walk(60, 59, -1));
        made(check, "walks of changed markings", 2000, 512, i -> net.put(4, 1) + net.reach(60) + net.take(4, 0));
        made(check, "again, last, all", 2000, 512, i -> net.again(1023, 200) + net.last(1023, 200, 9) + net.all());
        made(check, "invariants, weight, sum", 2000, 512, i -> net.invariants() + net.weight(0, 0, 0) + net.sum(0, 0));
        made(check, "spell, line, bindings", 2000, 512, i -> net.spell(4) + net.line() + net.bindings(0));
        made(check, "image, undo, go", 2000, 512, i -> net.image() + net.go(1) + net.undo());
        made(check, "rule", 512 * 1500, 512, i -> net.rule(9));
        check.end();
    }

    private interface Call {
        Object of(int i);
    }

    private static void made(Check check, String what, long most, int times, Call call) {
        for (int i = 0; i < 3; i++) {
            call.of(i);
        }
        long before = THREADS.getThreadAllocatedBytes(Thread.currentThread().getId());
        for (int i = 0; i < times; i++) {
            call.of(i);
        }
        // Each answer is put in an object of 24 bytes at most by this test.
        long bytes = THREADS.getThreadAllocatedBytes(Thread.currentThread().getId()) - before - times * 24L;
        if (bytes > most) {
            check.fail(what + " made " + bytes + " bytes, at most " + most + " are due");
        }
    }
}
