import java.util.Random;

/** The class against the model, call by call, over runs that are the same each time. */
final class ModelTest {
    private static final String[] FACE = {
        "put", "take", "token", "feed", "clear", "rule", "drop", "has", "spell", "line", "paper", "can", "bound",
        "bindings", "go", "all", "again", "last", "reach", "most", "dead", "ends", "stuck", "walk", "held", "change",
        "invariants", "weight", "sum", "told", "image", "undo",
    };
    private static final int[] FAR = {
        Integer.MIN_VALUE, Integer.MIN_VALUE + 1, -1000000, -2, -1, 10, 11, 60, 61, 100, 128, 200, 201, 1023, 1024,
        65536, 1 << 30, Integer.MAX_VALUE - 1, Integer.MAX_VALUE,
    };

    /** So many calls that change something leave an object room for the others. */
    private static final int MOST_CHANGES = 300;

    private final Check check;
    private final Random random;
    private final Both both;
    private int most;

    private ModelTest(Check check, long seed) {
        this.check = check;
        this.random = new Random(seed);
        this.both = new Both(check);
    }

    public static void main(String[] args) {
        int runs = args.length > 0 ? Integer.parseInt(args[0]) : 500;
        long first = args.length > 1 ? Long.parseLong(args[1]) : 0;
        Check check = new Check();
        for (long seed = first; seed < first + runs && check.wrong() < 5; seed++) {
            check.about("run " + seed);
            new ModelTest(check, seed).run();
        }
        check.end();
    }

    private void run() {
        most = 2 + random.nextInt(9);
        int wildness = random.nextInt(4) == 0 ? 3 : 40;
        for (int turn = 0; turn < 90 && both.changes() < MOST_CHANGES && check.wrong() == 0; turn++) {
            if (random.nextInt(4) == 0) {
                text();
            } else if (random.nextInt(5) == 0) {
                both.call("put", random.nextInt(most), token(), 0);
            } else {
                String name = FACE[random.nextInt(FACE.length)];
                both.call(name, number(wildness), number(wildness), number(wildness));
            }
        }
        if (check.wrong() == 0) {
            compareAll();
        }
    }

    /** All that the calls without changes tell, by ordinary numbers. */
    private void compareAll() {
        for (int part = 0; part < 10; part++) {
            both.call("spell", part, 0, 0);
            both.paper();
            both.call("bindings", part, 0, 0);
            both.call("bound", part, random.nextInt(3), 0);
            both.call("can", part, 0, 0);
        }
        both.call("line", 0, 0, 0);
        both.paper();
        both.call("all", 0, 0, 0);
        int n = 1 + random.nextInt(60);
        for (int bound : new int[] {n, 1 + random.nextInt(10), 60}) {
            for (String name : new String[] {"reach", "dead", "ends", "stuck"}) {
                both.call(name, bound, 0, 0);
            }
            both.call("most", random.nextInt(10), bound, 0);
            int marking = random.nextInt(bound);
            both.call("held", bound, marking, random.nextInt(10));
            both.call("walk", bound, marking, -1);
            both.call("walk", bound, marking, random.nextInt(4));
        }
        both.call("again", random.nextInt(1024), 1 + random.nextInt(200), 0);
        both.call("last", 1023, 1 + random.nextInt(200), random.nextInt(most));
        long invariants = both.call("invariants");
        for (int invariant = 0; invariant <= invariants; invariant++) {
            for (int place = 0; place < 10; place++) {
                both.call("weight", invariant, place, place & 1);
                both.call("weight", invariant, place, 1 - (place & 1));
            }
            both.call("sum", invariant, 0, 0);
            both.call("sum", invariant, 1, 0);
        }
    }

    private int token() {
        return random.nextInt(3) == 0 ? random.nextInt(100) : random.nextInt(4);
    }

    private int number(int wildness) {
        if (random.nextInt(wildness) == 0) {
            return random.nextInt(3) == 0 ? random.nextInt() : FAR[random.nextInt(FAR.length)];
        }
        int kind = random.nextInt(6);
        return kind == 0 ? random.nextInt(1024) : kind == 1 ? random.nextInt(62) - 1 : random.nextInt(most);
    }

    private void text() {
        StringBuilder text = new StringBuilder(random.nextInt(20) == 0 ? "" : new Texts(random, most).rule());
        if (random.nextInt(4) == 0) {
            spoil(text);
        }
        for (int i = 0; i < text.length() && i < 82; i++) {
            both.call("feed", text.charAt(i), 0, 0);
        }
        both.call("rule", random.nextInt(most), 0, 0);
    }

    private void spoil(StringBuilder text) {
        int times = 1 + random.nextInt(2);
        for (int i = 0; i < times && text.length() > 0; i++) {
            int at = random.nextInt(text.length());
            char letter = "in 0x;if<=>&+-*()outempty19yz w#".charAt(random.nextInt(32));
            switch (random.nextInt(4)) {
                case 0:
                    text.setLength(at);
                    break;
                case 1:
                    text.deleteCharAt(at);
                    break;
                case 2:
                    text.insert(at, letter);
                    break;
                default:
                    text.setCharAt(at, letter);
            }
        }
    }
}
