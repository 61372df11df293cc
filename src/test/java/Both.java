import java.util.ArrayList;
import java.util.List;
import java.util.Set;

/**
 * The class and the model side by side, call by call. What an object answers behind its 512th call is free: ahead
 * of that a new object does again what changed the old one, and goes on.
 */
final class Both {
    private static final int MOST_CALLS = 512;
    private static final Set<String> CHANGING = Set.of("put", "take", "feed", "clear", "rule", "drop", "spell", "line", "go",
            "image", "undo");

    private record Call(String name, int a, int b, int c) {
        @Override
        public String toString() {
            return name + "(" + a + ", " + b + ", " + c + ")";
        }
    }

    private final Check check;
    private final Model model = new Model();
    private TokenNet net = new TokenNet();
    private int calls = 0;
    private final List<Call> changes = new ArrayList<>();

    Both(Check check) {
        this.check = check;
    }

    int changes() {
        return changes.size();
    }

    /** The answer of the model; what follows is not used by a call of fewer numbers. */
    long call(String name, int... numbers) {
        Call call = new Call(name, at(numbers, 0), at(numbers, 1), at(numbers, 2));
        int before = check.wrong();
        long want = ofModel(call);
        check.due(call.toString(), ofNet(call), want);
        if (CHANGING.contains(name)) {
            changes.add(call);
        }
        if (check.wrong() > before) {
            System.out.println("the calls ahead that change something: " + changes);
        }
        return want;
    }

    void feed(String text) {
        for (int i = 0; i < text.length(); i++) {
            call("feed", text.charAt(i));
        }
    }

    void rule(int part, String text) {
        feed(text);
        call("rule", part);
    }

    void put(int place, int... tokens) {
        for (int token : tokens) {
            call("put", place, token);
        }
    }

    void paper() {
        long length = call("told", 4);
        for (int i = -1; i <= length; i++) {
            call("paper", i);
        }
    }

    /** Tokens, rules, the image and all that is told. */
    void whole() {
        paper();
        for (int what = 0; what <= 4; what++) {
            call("told", what);
        }
        for (int part = 0; part <= 9; part++) {
            if (call("spell", part) > 0) {
                paper();
            }
        }
        call("line");
        paper();
    }

    private static int at(int[] numbers, int i) {
        return i < numbers.length ? numbers[i] : 0;
    }

    private long ofNet(Call call) {
        if (calls == MOST_CALLS) {
            net = new TokenNet();
            calls = 0;
            for (Call change : changes) {
                answer(change);
            }
        }
        return answer(call);
    }

    private long answer(Call call) {
        calls++;
        if (calls > MOST_CALLS) {
            throw new IllegalStateException("too many calls change something");
        }
        int a = call.a();
        int b = call.b();
        int c = call.c();
        switch (call.name()) {
            case "put": return net.put(a, b);
            case "take": return net.take(a, b);
            case "token": return net.token(a, b);
            case "feed": return net.feed(a);
            case "clear": return net.clear();
            case "rule": return net.rule(a);
            case "drop": return net.drop(a);
            case "has": return net.has(a, b);
            case "spell": return net.spell(a);
            case "line": return net.line();
            case "paper": return net.paper(a);
            case "can": return net.can(a);
            case "bound": return net.bound(a, b);
            case "bindings": return net.bindings(a);
            case "go": return net.go(a);
            case "all": return net.all();
            case "again": return net.again(a, b);
            case "last": return net.last(a, b, c);
            case "reach": return net.reach(a);
            case "most": return net.most(a, b);
            case "dead": return net.dead(a);
            case "ends": return net.ends(a);
            case "stuck": return net.stuck(a);
            case "walk": return net.walk(a, b, c);
            case "held": return net.held(a, b, c);
            case "change": return net.change(a, b);
            case "invariants": return net.invariants();
            case "weight": return net.weight(a, b, c);
            case "sum": return net.sum(a, b);
            case "told": return net.told(a);
            case "image": return net.image();
            default: return net.undo();
        }
    }

    private long ofModel(Call call) {
        int a = call.a();
        int b = call.b();
        int c = call.c();
        switch (call.name()) {
            case "put": return model.put(a, b);
            case "take": return model.take(a, b);
            case "token": return model.token(a, b);
            case "feed": return model.feed(a);
            case "clear": return model.clear();
            case "rule": return model.rule(a);
            case "drop": return model.drop(a);
            case "has": return model.has(a, b);
            case "spell": return model.spell(a);
            case "line": return model.line();
            case "paper": return model.paper(a);
            case "can": return model.can(a);
            case "bound": return model.bound(a, b);
            case "bindings": return model.bindings(a);
            case "go": return model.go(a);
            case "all": return model.all();
            case "again": return model.again(a, b);
            case "last": return model.last(a, b, c);
            case "reach": return model.reach(a);
            case "most": return model.most(a, b);
            case "dead": return model.dead(a);
            case "ends": return model.ends(a);
            case "stuck": return model.stuck(a);
            case "walk": return model.walk(a, b, c);
            case "held": return model.held(a, b, c);
            case "change": return model.change(a, b);
            case "invariants": return model.invariants();
            case "weight": return model.weight(a, b, c);
            case "sum": return model.sum(a, b);
            case "told": return model.told(a);
            case "image": return model.image();
            case "undo": return model.undo();
            default: throw new IllegalArgumentException("no call: " + call);
        }
    }
}
