/** Promises 13 to 19: can, bound, bindings, go, all, again, last. */
final class GoingTest {
    private static final Check check = new Check();

    public static void main(String[] args) {
        can();
        room();
        conditions();
        bound();
        bindings();
        go();
        order();
        values();
        all();
        again();
        last();
        check.end();
    }

    private static void can() {
        check.about("promise 13, can");
        TokenNet net = Check.with("in 0 x;in 1 x");
        check.due("can(-1)", net.can(-1), -1);
        check.due("can(10)", net.can(10), -1);
        check.due("can(1)", net.can(1), -3);
        check.due("can(0) without tokens", net.can(0), 0);
        Check.put(net, 0, 1, 2);
        check.due("can(0) with one place empty", net.can(0), 0);
        Check.put(net, 1, 3);
        check.due("can(0) with unlike tokens", net.can(0), 0);
        Check.put(net, 1, 2);
        check.due("can(0)", net.can(0), 1);
        check.due("nothing is changed", Check.line(net), "P0=1,2 P1=3,2");
        TokenNet twice = Check.with("in 0 x;in 0 y");
        Check.put(twice, 0, 5);
        check.due("one token for two takes", twice.can(0), 0);
        Check.put(twice, 0, 5);
        check.due("two tokens for two takes", twice.can(0), 1);
    }

    private static void room() {
        check.about("promises 13 and 16, room");
        TokenNet net = Check.with("in 0 x;out 1 x;out 1 x", "in 1 x;out 1 x", "in 0 x;out 1 x;out 1 x;empty 1",
                "in 1 x;in 1 y;out 1 x;out 1 y;out 1 1");
        Check.put(net, 0, 1);
        Check.put(net, 1, 1, 2, 3, 4);
        check.due("can(0) with four there", net.can(0), 1);
        Check.put(net, 1, 5);
        check.due("can(0) with five there", net.can(0), 0);
        check.due("go(0) with five there", net.go(0), -3);
        check.due("nothing is changed", Check.line(net), "P0=1 P1=1,2,3,4,5");
        check.due("can(3) with five there", net.can(3), 1);
        Check.put(net, 1, 6);
        check.due("can(3) with six there", net.can(3), 0);
        check.due("can(1) from a full place to itself", net.can(1), 1);
        check.due("can(2) that empties a full place", net.can(2), 1);
        check.due("bound(0, 0) without room", net.bound(0, 0), 0);
        check.due("bindings(0) without room", net.bindings(0), 1);
        check.due("go(2)", net.go(2), 1);
        check.due("line", Check.line(net), "P1=1,1");
    }

    private static void conditions() {
        check.about("promise 13, conditions");
        TokenNet net = Check.with("in 0 x;if x<5", "in 0 x;if x>5", "in 0 x;if x=5", "in 0 x;if x>3&x<7;if x*2=10&1=1",
                "in 0 x;if x>4&x>5", "in 0 x;if x>5&x>4", "if 1<0;in 0 x", "if 0<1;in 0 x",
                "in 0 x;if x*x*x*x*x*x*x*x*x*x*x*x*x*x<0", "in 0 x;if 0-99*99*99*99*99>0");
        Check.put(net, 0, 5);
        check.due("all()", net.all(), 1 << 2 | 1 << 3 | 1 << 7 | (int5(14) < 0 ? 1 << 8 : 0)
                | (-99 * 99 * 99 * 99 * 99 > 0 ? 1 << 9 : 0));
        TokenNet equal = Check.with("in 0 x;if x=4", "in 0 x;if x=6", "in 0 x;if x=5&x=6", "in 0 x;if x=6&x=5", "in 0 x;if x=x",
                "in 0 x;if x=5&x>4", "in 0 x;if x<6&x=5");
        Check.put(equal, 0, 5);
        check.due("all() of equalities", equal.all(), 1 << 4 | 1 << 5 | 1 << 6);
        check.due("5 to the 14th as an int is not as a long", int5(14) == 6103515625L ? 1 : 0, 0);
    }

    private static int int5(int times) {
        int power = 1;
        for (int i = 0; i < times; i++) {
            power *= 5;
        }
        return power;
    }

    private static void bound() {
        check.about("promise 14, bound");
        TokenNet net = Check.with("in 0 x;in 1 y;in 0 z;if x<y;if y<z");
        check.due("bound(-1, 0)", net.bound(-1, 0), -1);
        check.due("bound(10, 0)", net.bound(10, 0), -1);
        check.due("bound(1, 0)", net.bound(1, 0), -3);
        check.due("bound(1, 9)", net.bound(1, 9), -3);
        check.due("bound(0, 3)", net.bound(0, 3), -1);
        check.due("bound(0, -1)", net.bound(0, -1), -1);
        check.due("bound(0, 0)", net.bound(0, 0), -5);
        Check.put(net, 0, 9, 4, 2, 8);
        Check.put(net, 1, 1, 9, 5, 3);
        // x 9 has no y; x 4 with y 9 has no z, with y 5 the first z is 9.
        check.due("bound(0, 0)", net.bound(0, 0), 1);
        check.due("bound(0, 1)", net.bound(0, 1), 2);
        check.due("bound(0, 2)", net.bound(0, 2), 0);
        check.due("bound(0, 3)", net.bound(0, 3), -1);
        TokenNet same = Check.with("in 0 x;in 0 x;in 0 y");
        Check.put(same, 0, 7, 5, 7, 5);
        check.due("bound(0, 0)", same.bound(0, 0), 0);
        check.due("bound(0, 1)", same.bound(0, 1), 2);
        check.due("bound(0, 2)", same.bound(0, 2), 1);
        same.take(0, 0);
        check.due("bound(0, 0)", same.bound(0, 0), 0);
        check.due("bound(0, 1)", same.bound(0, 1), 2);
        check.due("bound(0, 2)", same.bound(0, 2), 1);
    }

    private static void bindings() {
        check.about("promise 15, bindings");
        TokenNet net = Check.with("in 0 x;in 0 y;in 0 z", "in 0 x;in 0 x", "in 0 x", "in 0 x;in 1 x", "in 0 x;in 0 y;if x<y");
        check.due("bindings(-1)", net.bindings(-1), -1);
        check.due("bindings(10)", net.bindings(10), -1);
        check.due("bindings(9)", net.bindings(9), -3);
        check.due("bindings(0)", net.bindings(0), 0);
        Check.put(net, 0, 1, 1, 2, 3, 1, 3);
        Check.put(net, 1, 3, 4);
        check.due("bindings(0)", net.bindings(0), 120);
        check.due("bindings(1)", net.bindings(1), 8);
        check.due("bindings(2)", net.bindings(2), 6);
        check.due("bindings(3)", net.bindings(3), 2);
        check.due("bindings(4)", net.bindings(4), 11);
        check.due("nothing is changed", Check.line(net), "P0=1,1,2,3,1,3 P1=3,4");
    }

    private static void go() {
        check.about("promise 16, go");
        TokenNet net = Check.with("in 0 x;in 0 y;if x<y;out 1 x+y;out 2 x*y;out 1 7");
        check.due("go(-1)", net.go(-1), -1);
        check.due("go(10)", net.go(10), -1);
        check.due("go(1)", net.go(1), -3);
        check.due("go(0)", net.go(0), -3);
        Check.put(net, 0, 9, 3, 5, 30, 40);
        check.due("go(0)", net.go(0), 1);
        check.due("line", Check.line(net), "P0=3,5,40 P1=39,7 P2=70");
        check.due("go(0)", net.go(0), 2);
        check.due("line", Check.line(net), "P0=40 P1=39,7,8,7 P2=70,15");
        check.due("go(0)", net.go(0), -3);
        check.due("told(2)", net.told(2), 2);
        net.put(0, 50);
        check.due("go(0)", net.go(0), 3);
        check.due("line", Check.line(net), "P1=39,7,8,7,90,7 P2=70,15,0");
    }

    private static void order() {
        check.about("promise 16, takes, then empties, then gives");
        TokenNet net = Check.with("in 0 x;out 0 x+1;empty 0;out 1 x;empty 1", "in 0 x;in 1 y;in 0 z;out 0 y;out 0 x");
        Check.put(net, 0, 1, 2, 3);
        Check.put(net, 1, 4);
        check.due("go(1)", net.go(1), 1);
        check.due("line", Check.line(net), "P0=3,4,1");
        check.due("go(0)", net.go(0), 2);
        check.due("line", Check.line(net), "P0=4 P1=3");
        TokenNet own = Check.with("in 0 x;out 0 x");
        Check.put(own, 0, 1, 2, 3);
        own.go(0);
        check.due("the first goes last", Check.line(own), "P0=2,3,1");
    }

    private static void values() {
        check.about("promise 16, tokens given");
        given("1-2", 99);
        given("0-99-99-99", 3);
        given("99+1", 0);
        given("x*x", 9);
        given("2+3*4", 14);
        given("(2+3)*4", 20);
        given("20-5-3", 12);
        given("20-(5-3)", 18);
        given("20-5+3", 18);
        given("x-y", 90);
        given("y-x*z+50", 57 - 9);
        given("99*99*99*99*99", Math.floorMod(99 * 99 * 99 * 99 * 99, 100));
        given("0-99*99*99*99*99*99", Math.floorMod(-(99 * 99 * 99 * 99 * 99 * 99), 100));
    }

    /** What a part gives that has taken x 3, y 13, z 5 .. (x - y is -10, so 90). */
    private static void given(String expression, int want) {
        TokenNet net = Check.with("in 0 x;in 0 y;in 0 z;out 9 " + expression);
        Check.put(net, 0, 3, 13, 5);
        net.go(0);
        check.due(expression, net.token(9, 0), want);
    }

    private static void all() {
        check.about("promise 17, all");
        TokenNet net = Check.with("in 0 x", "in 1 x", "in 0 x;if x>5", "in 0 x;out 2 1");
        check.due("all()", net.all(), 0);
        net.put(0, 5);
        check.due("all()", net.all(), 9);
        Check.put(net, 2, 0, 0, 0, 0, 0, 0);
        check.due("all() without room", net.all(), 1);
        Check.rule(net, 9, "in 2 x");
        check.due("all()", net.all(), 513);
        check.due("nothing is changed", Check.line(net), "P0=5 P2=0,0,0,0,0,0");
    }

    private static void again() {
        check.about("promise 18, again");
        TokenNet net = Check.with("in 0 x;out 1 x", "in 1 x;out 0 x+1", "in 2 x;out 2 x+1");
        check.due("again(-1, 1)", net.again(-1, 1), -2);
        check.due("again(1024, 1)", net.again(1024, 1), -2);
        check.due("again(1, 0)", net.again(1, 0), -2);
        check.due("again(1, 201)", net.again(1, 201), -2);
        check.due("again(1023, 200) without tokens", net.again(1023, 200), 0);
        Check.put(net, 0, 1, 2, 3);
        Check.put(net, 2, 0);
        check.due("again(0, 200)", net.again(0, 200), 0);
        check.due("again(1, 200)", net.again(1, 200), 3);
        check.due("again(1, 2)", net.again(1, 2), 2);
        check.due("again(3, 200)", net.again(3, 200), 200);
        check.due("again(5, 200)", net.again(5, 200), 200);
        check.due("again(1016, 200), parts without rules", net.again(1016, 200), 0);
        check.due("nothing of it stays", Check.line(net), "P0=1,2,3 P2=0");
        check.due("told(2)", net.told(2), 0);
    }

    private static void last() {
        check.about("promise 19, last");
        TokenNet net = Check.with("in 0 x;out 1 x", "in 1 x;out 3 x", "in 2 x;out 2 x+1");
        check.due("last(-1, 1, 0)", net.last(-1, 1, 0), -2);
        check.due("last(1024, 1, 10)", net.last(1024, 1, 10), -2);
        check.due("last(1, 0, 0)", net.last(1, 0, 0), -2);
        check.due("last(1, 201, -1)", net.last(1, 201, -1), -2);
        check.due("last(1, 1, 10)", net.last(1, 1, 10), -1);
        check.due("last(1, 1, -1)", net.last(1, 1, -1), -1);
        check.due("last(1, 1, 0)", net.last(1, 1, 0), -5);
        Check.put(net, 0, 4, 5);
        Check.put(net, 2, 0);
        check.due("last(1, 1, 1)", net.last(1, 1, 1), 4);
        check.due("last(1, 2, 1)", net.last(1, 2, 1), 5);
        check.due("last(1, 2, 0)", net.last(1, 2, 0), -5);
        check.due("last(1, 1, 0)", net.last(1, 1, 0), 5);
        check.due("last(7, 3, 3): the least first", net.last(7, 3, 3), 4);
        check.due("last(7, 4, 3)", net.last(7, 4, 3), 5);
        check.due("last(7, 10, 2)", net.last(7, 10, 2), 6);
        check.due("last(4, 200, 2)", net.last(4, 200, 2), 0);
        check.due("last(4, 199, 2)", net.last(4, 199, 2), 99);
        check.due("last(0, 5, 2)", net.last(0, 5, 2), 0);
        check.due("nothing of it stays", Check.line(net), "P0=4,5 P2=0");
    }
}
