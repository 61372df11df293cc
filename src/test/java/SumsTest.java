/** Promises 27 to 30: change, invariants, weight, sum. */
final class SumsTest {
    private static final Check check = new Check();

    public static void main(String[] args) {
        change();
        newObject();
        chain();
        fractions();
        longFractions();
        laterPlaces();
        emptiesAside();
        wrongInputs();
        check.end();
    }

    private static void change() {
        check.about("promise 27, change");
        TokenNet net = new TokenNet();
        check.due("change(-1, 0)", net.change(-1, 0), -1);
        check.due("change(10, 0)", net.change(10, 0), -1);
        check.due("change(0, -1)", net.change(0, -1), -1);
        check.due("change(0, 10)", net.change(0, 10), -1);
        check.due("change(0, 0)", net.change(0, 0), -3);
        Check.rule(net, 0, "in 0 x;in 0 y;in 1 z;out 1 x;out 2 y;out 2 z;empty 0;empty 3");
        int[] want = {-2, 0, 2, 0, 0, 0, 0, 0, 0, 0};
        for (int place = 0; place < 10; place++) {
            check.due("change(0, " + place + ")", net.change(0, place), want[place]);
        }
        check.due("change(0, 10)", net.change(0, 10), -1);
        Check.rule(net, 9, "in 9 x;in 9 x;in 9 x");
        check.due("change(9, 9)", net.change(9, 9), -3);
        Check.rule(net, 9, "in 0 x;out 9 1;out 9 2;out 9 3");
        check.due("change(9, 9)", net.change(9, 9), 3);
    }

    private static void weights(TokenNet net, int invariant, int[] above, int[] below) {
        for (int place = 0; place < 10; place++) {
            String call = "weight(" + invariant + ", " + place + ", ";
            check.due(call + "0)", net.weight(invariant, place, 0), above[place]);
            check.due(call + "1)", net.weight(invariant, place, 1), below[place]);
        }
    }

    private static int[] ones() {
        return new int[] {1, 1, 1, 1, 1, 1, 1, 1, 1, 1};
    }

    private static void newObject() {
        check.about("promises 28 to 30, a new object");
        TokenNet net = new TokenNet();
        check.due("invariants()", net.invariants(), 10);
        for (int invariant = 0; invariant < 10; invariant++) {
            int[] above = new int[10];
            above[invariant] = 1;
            weights(net, invariant, above, ones());
        }
        Check.put(net, 4, 1, 1, 1);
        check.due("sum(4, 0)", net.sum(4, 0), 3);
        check.due("sum(4, 1)", net.sum(4, 1), 1);
        check.due("sum(5, 0)", net.sum(5, 0), 0);
        check.due("sum(5, 1)", net.sum(5, 1), 1);
    }

    private static void chain() {
        check.about("promises 28 to 30, a chain");
        TokenNet net = new TokenNet();
        Check.rule(net, 0, "in 0 x;out 1 x");
        Check.rule(net, 1, "in 1 x;out 2 x");
        Check.rule(net, 2, "in 2 x;out 0 x");
        // Places 0 and 1 are not bound, 2 is: all three weigh 1.
        check.due("invariants()", net.invariants(), 8);
        weights(net, 0, new int[] {1, 1, 1, 0, 0, 0, 0, 0, 0, 0}, ones());
        weights(net, 1, new int[] {0, 0, 0, 1, 0, 0, 0, 0, 0, 0}, ones());
        weights(net, 7, new int[] {0, 0, 0, 0, 0, 0, 0, 0, 0, 1}, ones());
        Check.put(net, 0, 5, 6);
        Check.put(net, 2, 7);
        Check.put(net, 9, 7);
        check.due("sum(0, 0)", net.sum(0, 0), 3);
        net.go(0);
        check.due("sum(0, 0) behind a go", net.sum(0, 0), 3);
        check.due("sum(7, 0)", net.sum(7, 0), 1);
    }

    private static void fractions() {
        check.about("promises 28 to 30, fractions");
        TokenNet net = new TokenNet();
        Check.rule(net, 0, "in 0 x;in 0 x;in 0 x;out 1 1;out 1 1");
        // -3 a + 2 b = 0: for b 1 a is 2/3.
        check.due("invariants()", net.invariants(), 9);
        int[] above = {2, 1, 0, 0, 0, 0, 0, 0, 0, 0};
        int[] below = ones();
        below[0] = 3;
        weights(net, 0, above, below);
        Check.put(net, 0, 1, 1);
        check.due("sum(0, 0)", net.sum(0, 0), 4);
        check.due("sum(0, 1)", net.sum(0, 1), 3);
        Check.put(net, 0, 1);
        Check.put(net, 1, 1);
        check.due("sum(0, 0)", net.sum(0, 0), 3);
        check.due("sum(0, 1)", net.sum(0, 1), 1);
        Check.rule(net, 0, "in 0 x;in 1 y");
        // -a - b = 0: below the line 1 or more, above it less than 0.
        above[0] = -1;
        weights(net, 0, above, ones());
        check.due("sum(0, 0)", net.sum(0, 0), -2);
        check.due("sum(0, 1)", net.sum(0, 1), 1);
        Check.rule(net, 0, "in 0 x;in 0 y;in 1 z;out 2 x;out 2 y;out 2 z");
        // -2 a - b + 3 c = 0: b is -1/2 of a, c is 3/2.
        check.due("invariants()", net.invariants(), 9);
        below[0] = 2;
        weights(net, 0, new int[] {-1, 1, 0, 0, 0, 0, 0, 0, 0, 0}, below);
        weights(net, 1, new int[] {3, 0, 1, 0, 0, 0, 0, 0, 0, 0}, below);
    }

    /** Three of each place become two of the next: place 9 weighs 1, each ahead of it 2/3 of the next. */
    private static void longFractions() {
        check.about("promises 28 to 30, long fractions");
        TokenNet net = new TokenNet();
        for (int place = 0; place < 9; place++) {
            String next = ";out " + (place + 1) + " 1";
            String rule = "in " + place + " x;in " + place + " y;in " + place + " z" + next + next;
            check.due("rule " + place, Check.rule(net, 9 - place, rule), 5);
        }
        check.due("invariants()", net.invariants(), 1);
        int[] above = {512, 256, 128, 64, 32, 16, 8, 4, 2, 1};
        int[] below = {19683, 6561, 2187, 729, 243, 81, 27, 9, 3, 1};
        weights(net, 0, above, below);
        Check.put(net, 0, 1, 1);
        Check.put(net, 5, 1);
        Check.put(net, 9, 1);
        check.due("sum(0, 0)", net.sum(0, 0), 2 * 512 + 16 * 243 + 19683);
        check.due("sum(0, 1)", net.sum(0, 1), 19683);
        Check.rule(net, 0, "in 0 x;in 0 y;in 9 x;out 4 1;out 4 1;out 7 1");
        check.due("invariants() with a part that breaks it", net.invariants(), 0);
    }

    private static void laterPlaces() {
        check.about("promises 28 and 29, places by numbers");
        TokenNet net = new TokenNet();
        Check.rule(net, 7, "in 8 x;out 3 x;out 3 x");
        Check.rule(net, 2, "in 6 x;out 4 x;out 9 x");
        Check.rule(net, 3, "in 5 x;out 5 x");
        // 3 and 4 are not bound; 5 is changed by none; 8 is bound to 3 and 6, 9 to 4.
        check.due("invariants()", net.invariants(), 8);
        int[] below = ones();
        weights(net, 3, new int[] {0, 0, 0, 0, 0, 1, 0, 0, 0, 0}, below);
        weights(net, 4, new int[] {0, 0, 0, 0, 1, 0, 1, 0, 0, 0}, below);
        weights(net, 7, new int[] {0, 0, 0, 0, -1, 0, 0, 0, 0, 1}, below);
        below[3] = 2;
        weights(net, 6, new int[] {0, 0, 0, 1, 0, 0, 0, 0, 1, 0}, below);
        net.drop(7);
        check.due("invariants() behind drop", net.invariants(), 9);
    }

    private static void emptiesAside() {
        check.about("promise 28, empties aside");
        TokenNet net = new TokenNet();
        Check.rule(net, 0, "in 0 x;out 0 x;empty 0;empty 1");
        check.due("invariants()", net.invariants(), 10);
        Check.rule(net, 1, "in 0 x");
        check.due("invariants()", net.invariants(), 9);
        check.due("weight(0, 0, 0): place 1 is the first that is bound", net.weight(0, 0, 0), 0);
        check.due("weight(0, 1, 0)", net.weight(0, 1, 0), 1);
        for (int part = 0; part < 10; part++) {
            Check.rule(net, part, "in " + part + " x");
        }
        check.due("invariants() with each place free", net.invariants(), 0);
        check.due("weight(0, 0, 0)", net.weight(0, 0, 0), Long.MIN_VALUE);
        check.due("sum(0, 0)", net.sum(0, 0), -1);
    }

    private static void wrongInputs() {
        check.about("promises 29 and 30, wrong inputs");
        TokenNet net = new TokenNet();
        Check.rule(net, 0, "in 0 x");
        check.due("weight(9, 0, 0)", net.weight(9, 0, 0), Long.MIN_VALUE);
        check.due("weight(8, 9, 0)", net.weight(8, 9, 0), 1);
        check.due("weight(-1, 0, 0)", net.weight(-1, 0, 0), Long.MIN_VALUE);
        check.due("weight(0, -1, 0)", net.weight(0, -1, 0), Long.MIN_VALUE);
        check.due("weight(0, 10, 0)", net.weight(0, 10, 0), Long.MIN_VALUE);
        check.due("weight(0, 0, 2)", net.weight(0, 0, 2), Long.MIN_VALUE);
        check.due("weight(0, 0, -1)", net.weight(0, 0, -1), Long.MIN_VALUE);
        check.due("sum(9, 0)", net.sum(9, 0), -1);
        check.due("sum(-1, 0)", net.sum(-1, 0), -1);
        check.due("sum(0, 2)", net.sum(0, 2), -1);
        check.due("sum(0, -1)", net.sum(0, -1), -1);
    }
}
