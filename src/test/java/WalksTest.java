/** Promises 20 to 26: reach, most, dead, ends, stuck, walk, held. */
final class WalksTest {
    private static final Check check = new Check();

    public static void main(String[] args) {
        wrongInputs();
        emptyNet();
        choice();
        bounds();
        lateLeads();
        farEnd();
        rings();
        orderOfTokens();
        afterChanges();
        check.end();
    }

    private static void wrongInputs() {
        check.about("promises 20 to 26, wrong inputs");
        TokenNet net = new TokenNet();
        for (int n : new int[] {0, -1, 61, Integer.MIN_VALUE, Integer.MAX_VALUE}) {
            check.due("reach(" + n + ")", net.reach(n), -2);
            check.due("most(0, " + n + ")", net.most(0, n), -2);
            check.due("most(10, " + n + ")", net.most(10, n), -1);
            check.due("dead(" + n + ")", net.dead(n), -2);
            check.due("ends(" + n + ")", net.ends(n), -2);
            check.due("stuck(" + n + ")", net.stuck(n), -2);
            check.due("walk(" + n + ", 9, 9)", net.walk(n, 9, 9), -2);
            check.due("held(" + n + ", 9, 99)", net.held(n, 9, 99), -2);
        }
        check.due("most(-1, 1)", net.most(-1, 1), -1);
        check.due("walk(1, 1, -1)", net.walk(1, 1, -1), -1);
        check.due("walk(1, -1, -1)", net.walk(1, -1, -1), -1);
        check.due("walk(1, 0, -2)", net.walk(1, 0, -2), -1);
        check.due("held(1, 1, 0)", net.held(1, 1, 0), -1);
        check.due("held(1, -1, 0)", net.held(1, -1, 0), -1);
        check.due("held(1, 0, 10)", net.held(1, 0, 10), -1);
        check.due("held(1, 0, -1)", net.held(1, 0, -1), -1);
    }

    private static void emptyNet() {
        check.about("promises 20 to 26, a new object");
        TokenNet net = new TokenNet();
        check.due("reach(60)", net.reach(60), 1);
        check.due("most(0, 60)", net.most(0, 60), 0);
        check.due("dead(60)", net.dead(60), 0);
        check.due("ends(60)", net.ends(60), 0);
        check.due("stuck(60)", net.stuck(60), 0);
        check.due("walk(60, 0, -1)", net.walk(60, 0, -1), 0);
        check.due("walk(60, 0, 0)", net.walk(60, 0, 0), -1);
        check.due("held(60, 0, 0)", net.held(60, 0, 0), 0);
        net.put(9, 1);
        check.due("ends(60)", net.ends(60), 1);
        check.due("stuck(60)", net.stuck(60), -5);
    }

    /**
     * From 0 part 1 leads to place 1 and part 2 to place 2; from place 1 part 3 leads to the end, from
     * place 2 nothing does. So 0: P0, 1: P1, 2: P2, 3: P9.
     */
    private static TokenNet choiceNet() {
        TokenNet net = new TokenNet();
        Check.rule(net, 2, "in 0 x;out 2 x");
        Check.rule(net, 1, "in 0 x;out 1 x");
        Check.rule(net, 3, "in 1 x;out 9 x;out 9 x");
        Check.rule(net, 5, "in 5 x");
        net.put(0, 7);
        return net;
    }

    private static void choice() {
        check.about("promises 20 to 26, a choice");
        TokenNet net = choiceNet();
        for (int n = 1; n <= 60; n++) {
            check.due("reach(" + n + ")", net.reach(n), Math.min(n, 4));
        }
        int[] places = {0, 1, 2, 9};
        for (int marking = 0; marking < 4; marking++) {
            for (int place = 0; place < 10; place++) {
                int want = place != places[marking] ? 0 : place == 9 ? 2 : 1;
                check.due("held(60, " + marking + ", " + place + ")", net.held(60, marking, place), want);
            }
        }
        check.due("held(3, 3, 9)", net.held(3, 3, 9), -1);
        check.due("most(9, 3)", net.most(9, 3), 0);
        check.due("most(9, 4)", net.most(9, 4), 2);
        check.due("most(3, 4)", net.most(3, 4), 0);
        check.due("most(0, 4)", net.most(0, 4), 1);
        check.due("ends(3)", net.ends(3), 0);
        check.due("ends(4)", net.ends(4), 1);
        check.due("dead(1)", net.dead(1), 1 << 3 | 1 << 5);
        check.due("dead(2), part 3 can go in marking 1", net.dead(2), 1 << 5);
        check.due("stuck(3): no end is found", net.stuck(3), 0);
        check.due("stuck(4)", net.stuck(4), 2);
        check.due("walk(4, 3, -1)", net.walk(4, 3, -1), 2);
        check.due("walk(4, 3, 0)", net.walk(4, 3, 0), 1);
        check.due("walk(4, 3, 1)", net.walk(4, 3, 1), 3);
        check.due("walk(4, 3, 2)", net.walk(4, 3, 2), -1);
        check.due("walk(4, 2, 0)", net.walk(4, 2, 0), 2);
        check.due("walk(4, 2, -1)", net.walk(4, 2, -1), 1);
        check.due("walk(4, 4, -1)", net.walk(4, 4, -1), -1);
        check.due("nothing is changed", Check.line(net), "P0=7");
        check.due("told(2)", net.told(2), 0);
        net.drop(2);
        check.due("stuck(60)", net.stuck(60), -5);
    }

    private static void bounds() {
        check.about("promises 20 and 21, bounds");
        TokenNet net = new TokenNet();
        Check.rule(net, 0, "in 0 x;out 0 x+1");
        net.put(0, 0);
        check.due("reach(59)", net.reach(59), 59);
        check.due("reach(60)", net.reach(60), 60);
        check.due("walk(60, 59, -1)", net.walk(60, 59, -1), 59);
        check.due("walk(60, 59, 58)", net.walk(60, 59, 58), 0);
        check.due("walk(60, 59, 59)", net.walk(60, 59, 59), -1);
        Check.rule(net, 0, "in 0 x;if x<3;out 0 x+1;out 1 x");
        check.due("reach(60)", net.reach(60), 4);
        check.due("most(1, 3)", net.most(1, 3), 2);
        check.due("most(1, 60)", net.most(1, 60), 3);
        check.due("most(0, 60)", net.most(0, 60), 1);
    }

    /** A lead from the last one found to one found before counts; one to what is not found is none. */
    private static void lateLeads() {
        check.about("promise 24, leads from the last ones");
        TokenNet net = new TokenNet();
        Check.rule(net, 0, "in 0 x;if x=0;out 1 x");
        Check.rule(net, 1, "in 0 x;if x=0;out 9 x");
        Check.rule(net, 2, "in 1 x;out 0 x");
        Check.rule(net, 3, "in 1 x;out 2 x");
        net.put(0, 0);
        // 0: P0, 1: P1, 2: P9, 3: P2; from 1 back to 0.
        check.due("stuck(2)", net.stuck(2), 0);
        check.due("stuck(3)", net.stuck(3), -5);
        check.due("stuck(4)", net.stuck(4), 3);
        check.due("dead(3): part 3 can go, though nothing new is found", net.dead(3), 0);
        check.due("ends(3)", net.ends(3), 1);
        net.take(0, 0);
        check.due("dead(60) with nothing there", net.dead(60), 15);
        net.drop(0);
        check.due("dead(60) without part 0", net.dead(60), 14);
    }

    /** The end is the last of sixty in a row. */
    private static void farEnd() {
        check.about("promise 24, a far end");
        TokenNet net = new TokenNet();
        Check.rule(net, 0, "in 0 x;if x<58;out 0 x+1");
        Check.rule(net, 1, "in 0 x;if x=58;out 9 x");
        net.put(0, 0);
        check.due("reach(60)", net.reach(60), 60);
        check.due("ends(60)", net.ends(60), 1);
        check.due("ends(59)", net.ends(59), 0);
        check.due("stuck(60)", net.stuck(60), -5);
        check.due("stuck(59)", net.stuck(59), 0);
        check.due("dead(58)", net.dead(58), 2);
        check.due("dead(59)", net.dead(59), 0);
        check.due("walk(60, 59, 58)", net.walk(60, 59, 58), 1);
        check.due("walk(60, 59, 57)", net.walk(60, 59, 57), 0);
        check.due("held(60, 59, 9)", net.held(60, 59, 9), 1);
    }

    /** The walk goes round; the end leaves again, and what comes behind it is stuck or not by its own leads. */
    private static void rings() {
        check.about("promise 24, rings and ends that are left");
        TokenNet net = new TokenNet();
        Check.rule(net, 0, "in 0 x;out 9 x");
        Check.rule(net, 1, "in 9 x;out 1 x");
        Check.rule(net, 2, "in 1 x;out 2 x");
        Check.rule(net, 3, "in 2 x;out 1 x");
        net.put(0, 0);
        check.due("reach(60)", net.reach(60), 4);
        check.due("stuck(60)", net.stuck(60), 2);
        check.due("stuck(2)", net.stuck(2), -5);
        Check.rule(net, 4, "in 2 x;out 0 x");
        check.due("stuck(60)", net.stuck(60), -5);
        check.due("stuck(3)", net.stuck(3), 2);
        check.due("reach(60)", net.reach(60), 4);
    }

    private static void orderOfTokens() {
        check.about("promise 20, markings unlike by the order of tokens");
        TokenNet net = new TokenNet();
        Check.rule(net, 0, "in 0 x;out 0 x");
        Check.put(net, 0, 1, 2, 3);
        check.due("reach(60)", net.reach(60), 3);
        Check.put(net, 0, 1, 2, 3);
        check.due("reach(60)", net.reach(60), 3);
        net.take(0, 5);
        check.due("reach(60)", net.reach(60), 5);
    }

    private static void afterChanges() {
        check.about("promises 20 to 26, after changes");
        TokenNet net = choiceNet();
        check.due("reach(60)", net.reach(60), 4);
        net.put(0, 8);
        check.due("reach(60) behind put", net.reach(60), 12);
        net.take(0, 1);
        check.due("reach(60) behind take", net.reach(60), 4);
        net.go(1);
        check.due("reach(60) behind go", net.reach(60), 2);
        net.image();
        net.go(3);
        check.due("reach(60) behind go", net.reach(60), 1);
        net.undo();
        check.due("reach(60) behind undo", net.reach(60), 2);
        Check.rule(net, 9, "in 1 x;out 1 x+50");
        check.due("reach(60) behind rule", net.reach(60), 4);
        net.drop(9);
        check.due("reach(60) behind drop", net.reach(60), 2);
        net.again(1023, 5);
        net.all();
        net.can(3);
        check.due("reach(60) behind again, all, can", net.reach(60), 2);
        check.due("held(60, 1, 9)", net.held(60, 1, 9), 2);
    }
}
