import com.sun.management.ThreadMXBean;
import java.lang.management.ManagementFactory;

/** All calls of one run live in one room, 7.3 million elements in all: what an object's calls make is counted. */
final class RoomTest {
    private static final ThreadMXBean THREADS = (ThreadMXBean) ManagementFactory.getThreadMXBean();
    private static final long MOST_BYTES = 4 * 7300000L;
    private static final String[] RULES = {
        "in 0 x;in 0 y;in 0 z;if x+y+z>99*9", "in 1 x;out 1 x+1;empty 2", "in 1 x;out 2 x;out 1 x*7",
        "in 2 x;in 2 y;if x<y;out 3 x;out 3 y;out 9 1", "in 3 x;in 3 x;out 0 (x+(x-1))*2",
    };

    public static void main(String[] args) {
        Check check = new Check();
        check.about("the room");
        made(check, "a new object", 20, 20, net -> new TokenNet());
        made(check, "reach, stuck, walk", 80, 512, net -> net.reach(60) + net.stuck(60) + net.walk(60, 59, -1));
        made(check, "walks of changed markings", 80, 512, net -> net.put(4, 1) + net.reach(60) + net.take(4, 0));
        made(check, "again, last, all", 80, 512, net -> net.again(1023, 200) + net.last(1023, 200, 9) + net.all());
        made(check, "invariants, weight, sum", 80, 512, net -> net.invariants() + net.weight(0, 0, 0) + net.sum(0, 0));
        made(check, "spell, line, bindings", 80, 512, net -> net.spell(4) + net.line() + net.bindings(0));
        made(check, "image, undo, go", 80, 512, net -> net.image() + net.go(1) + net.undo());
        made(check, "rule", 240, 512, net -> net.rule(9));
        check.end();
    }

    private static TokenNet busy() {
        TokenNet net = Check.with(RULES);
        Check.put(net, 0, 1, 2, 3, 4, 5, 6);
        Check.put(net, 1, 1, 2, 3, 4, 5);
        return net;
    }

    private interface Call {
        Object of(TokenNet net);
    }

    /** What is made by so many times is measured; by as many as there may be in a run it must fit into the room. */
    private static void made(Check check, String what, int times, int timesOfRun, Call call) {
        call.of(busy());
        TokenNet net = busy();
        long before = THREADS.getThreadAllocatedBytes(Thread.currentThread().getId());
        for (int i = 0; i < times; i++) {
            call.of(net);
        }
        // Each answer is put in an object of 24 bytes at most by this test.
        long bytes = THREADS.getThreadAllocatedBytes(Thread.currentThread().getId()) - before - times * 24L;
        if (bytes / times * timesOfRun > MOST_BYTES) {
            check.fail(what + " made " + bytes + " bytes by " + times + " times");
        }
    }
}
