import java.util.Random;

/** The class against the model, call by call, over runs that are the same each time. */
final class ModelTest {
    private static final String[] FACE = {
        "put", "take", "token", "feed", "clear", "rule", "drop", "has", "spell", "line", "paper", "can", "bound",
        "bindings", "go", "all", "again", "last", "reach", "most", "dead", "ends", "stuck", "walk", "held", "change",
        "invariants", "weight", "sum", "told", "image", "undo",
    };
    private static final int[] FAR = {
        Integer.MIN_VALUE, Integer.MIN_VALUE + 1, -1000000, -2, -1, 10, 11, 60, 61, 100, 128, 200, 201, 1023, 1024,
        65536, 1 << 30, Integer.MAX_VALUE - 1, Integer.MAX_VALUE,
    };

    private final Check check;
    private final Random random;
    private TokenNet net = new TokenNet();
    private Model model = new Model();
    private final StringBuilder calls = new StringBuilder();
    private int most;

    private ModelTest(Check check, long seed) {
        this.check = check;
        this.random = new Random(seed);
    }

    public static void main(String[] args) {
        int runs = args.length > 0 ? Integer.parseInt(args[0]) : 500;
        long first = args.length > 1 ? Long.parseLong(args[1]) : 0;
        Check check = new Check();
        for (long seed = first; seed < first + runs && check.wrong() < 5; seed++) {
            check.about("run " + seed);
            new ModelTest(check, seed).run();
        }
        check.end();
    }

    private void run() {
        most = 2 + random.nextInt(9);
        int wildness = random.nextInt(4) == 0 ? 3 : 40;
        for (int turn = 0; turn < 90 && check.wrong() == 0; turn++) {
            if (random.nextInt(4) == 0) {
                text();
            } else if (random.nextInt(5) == 0) {
                call("put", random.nextInt(most), token(), 0);
            } else {
                String name = FACE[random.nextInt(FACE.length)];
                call(name, number(wildness), number(wildness), number(wildness));
            }
        }
        if (check.wrong() == 0) {
            compareAll();
        }
    }

    /** All that the calls without changes tell, by ordinary numbers. */
    private void compareAll() {
        for (int part = 0; part < 10; part++) {
            call("spell", part, 0, 0);
            call("bindings", part, 0, 0);
            call("bound", part, random.nextInt(3), 0);
            call("can", part, 0, 0);
        }
        call("line", 0, 0, 0);
        call("all", 0, 0, 0);
        int n = 1 + random.nextInt(60);
        for (int bound : new int[] {n, 1 + random.nextInt(10), 60}) {
            for (String name : new String[] {"reach", "dead", "ends", "stuck"}) {
                call(name, bound, 0, 0);
            }
            call("most", random.nextInt(10), bound, 0);
            int marking = random.nextInt(bound);
            call("held", bound, marking, random.nextInt(10));
            call("walk", bound, marking, -1);
            call("walk", bound, marking, random.nextInt(4));
        }
        call("again", random.nextInt(1024), 1 + random.nextInt(200), 0);
        call("last", 1023, 1 + random.nextInt(200), random.nextInt(most));
        int invariants = net.invariants();
        call("invariants", 0, 0, 0);
        for (int invariant = 0; invariant <= invariants; invariant++) {
            for (int place = 0; place < 10; place++) {
                call("weight", invariant, place, place & 1);
                call("weight", invariant, place, 1 - (place & 1));
            }
            call("sum", invariant, 0, 0);
            call("sum", invariant, 1, 0);
        }
    }

    private int token() {
        return random.nextInt(3) == 0 ? random.nextInt(100) : random.nextInt(4);
    }

    private int number(int wildness) {
        if (random.nextInt(wildness) == 0) {
            return random.nextInt(3) == 0 ? random.nextInt() : FAR[random.nextInt(FAR.length)];
        }
        int kind = random.nextInt(6);
        return kind == 0 ? random.nextInt(1024) : kind == 1 ? random.nextInt(62) - 1 : random.nextInt(most);
    }

    private void text() {
        StringBuilder text = new StringBuilder(random.nextInt(20) == 0 ? "" : new Texts(random, most).rule());
        if (random.nextInt(4) == 0) {
            spoil(text);
        }
        for (int i = 0; i < text.length() && i < 82; i++) {
            call("feed", text.charAt(i), 0, 0);
        }
        call("rule", random.nextInt(most), 0, 0);
    }

    private void spoil(StringBuilder text) {
        int times = 1 + random.nextInt(2);
        for (int i = 0; i < times && text.length() > 0; i++) {
            int at = random.nextInt(text.length());
            char letter = "in 0x;if<=>&+-*()outempty19yz w#".charAt(random.nextInt(32));
            switch (random.nextInt(4)) {
                case 0:
                    text.setLength(at);
                    break;
                case 1:
                    text.deleteCharAt(at);
                    break;
                case 2:
                    text.insert(at, letter);
                    break;
                default:
                    text.setCharAt(at, letter);
            }
        }
    }

    private void call(String name, int a, int b, int c) {
        if (calls.length() < 20000) {
            calls.append(name).append('(').append(a).append(',').append(b).append(',').append(c).append(") ");
        }
        int before = check.wrong();
        check.due(name + "(" + a + ", " + b + ", " + c + ")", ofClass(name, a, b, c), ofModel(name, a, b, c));
        if (name.equals("spell") || name.equals("line")) {
            check.due("the paper", Check.paper(net), model.paper);
        }
        if (check.wrong() > before) {
            System.out.println("the calls: " + calls);
        }
    }

    private long ofClass(String name, int a, int b, int c) {
        switch (name) {
            case "put": return net.put(a, b);
            case "take": return net.take(a, b);
            case "token": return net.token(a, b);
            case "feed": return net.feed(a);
            case "clear": return net.clear();
            case "rule": return net.rule(a);
            case "drop": return net.drop(a);
            case "has": return net.has(a, b);
            case "spell": return net.spell(a);
            case "line": return net.line();
            case "paper": return net.paper(a);
            case "can": return net.can(a);
            case "bound": return net.bound(a, b);
            case "bindings": return net.bindings(a);
            case "go": return net.go(a);
            case "all": return net.all();
            case "again": return net.again(a, b);
            case "last": return net.last(a, b, c);
            case "reach": return net.reach(a);
            case "most": return net.most(a, b);
            case "dead": return net.dead(a);
            case "ends": return net.ends(a);
            case "stuck": return net.stuck(a);
            case "walk": return net.walk(a, b, c);
            case "held": return net.held(a, b, c);
            case "change": return net.change(a, b);
            case "invariants": return net.invariants();
            case "weight": return net.weight(a, b, c);
            case "sum": return net.sum(a, b);
            case "told": return net.told(a);
            case "image": return net.image();
            default: return net.undo();
        }
    }

    private long ofModel(String name, int a, int b, int c) {
        switch (name) {
            case "put": return model.put(a, b);
            case "take": return model.take(a, b);
            case "token": return model.token(a, b);
            case "feed": return model.feed(a);
            case "clear": return model.clear();
            case "rule": return model.rule(a);
            case "drop": return model.drop(a);
            case "has": return model.has(a, b);
            case "spell": return model.spell(a);
            case "line": return model.line();
            case "paper": return model.paper(a);
            case "can": return model.can(a);
            case "bound": return model.bound(a, b);
            case "bindings": return model.bindings(a);
            case "go": return model.go(a);
            case "all": return model.all();
            case "again": return model.again(a, b);
            case "last": return model.last(a, b, c);
            case "reach": return model.reach(a);
            case "most": return model.most(a, b);
            case "dead": return model.dead(a);
            case "ends": return model.ends(a);
            case "stuck": return model.stuck(a);
            case "walk": return model.walk(a, b, c);
            case "held": return model.held(a, b, c);
            case "change": return model.change(a, b);
            case "invariants": return model.invariants();
            case "weight": return model.weight(a, b, c);
            case "sum": return model.sum(a, b);
            case "told": return model.told(a);
            case "image": return model.image();
            default: return model.undo();
        }
    }
}
