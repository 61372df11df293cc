/** Boundary cases of walks, and promises 20 to 26. */
final class EdgesOfWalks {
    static final int[] NO_BOUNDS = {0, 61, -1, -60, 1000, Integer.MIN_VALUE, Integer.MAX_VALUE};

    static void tell(Sentences sentences) {
        sentences.of("==== 3");
        sentences.holds("first that of now (0)", EdgesOfWalks::firstNow);
        sentences.holds("from each found, in the order in which they were found, by each PART that CAN GO there, by numbers",
                EdgesOfWalks::order);
        sentences.holds("that which is then, if it wasn't found", EdgesOfWalks::foundOnce);
        sentences.holds("until n are found or there is no more (n 1 .. 60).", EdgesOfWalks::untilFound);
        sentences.holds("(also to such as were found before", EdgesOfWalks::leadsBack);
        sentences.holds("from the last ones on, if n are found, what would be a new one is none).", EdgesOfWalks::leadsToNew);
        sentences.holds("the most TOKENS it has in one of those found.", EdgesOfWalks::mostTokens);
        sentences.holds("DEAD: PARTS with a RULE that CAN GO in none of those found.", EdgesOfWalks::deadParts);
        sentences.holds("AN END is a MARKING in which PLACE 9 has a TOKEN.", EdgesOfWalks::anEnd);
        sentences.holds("STUCK: the first found that isn't an END, and from which by LEADS no END is reached; -5.",
                EdgesOfWalks::firstStuck);
        sentences.holds("WALK to a MARKING found: the PARTS by which it was found first, from that of now on.",
                EdgesOfWalks::walkTo);
        sentences.of("Said once more.");
        sentences.holds("MARKINGS are alike if each PLACE has the same TOKENS in the same order.", EdgesOfWalks::alike);
        sentences.of("## Promise 20:");
        sentences.holds("How many MARKINGS WALKS find by n.", EdgesOfWalks::reach);
        sentences.holds("BAD: n.", check -> badBounds(check, (net, n) -> net.reach(n)));
        sentences.of("## Promise 21:");
        sentences.holds("BOUND of a PLACE.", EdgesOfWalks::most);
        sentences.holds("NONE", EdgesOfWalks::mostNone);
        sentences.holds("BAD: n.", check -> badBounds(check, (net, n) -> net.most(0, n)));
        sentences.of("## Promise 22:");
        sentences.holds("DEAD (bits).", EdgesOfWalks::dead);
        sentences.holds("BAD: n.", check -> badBounds(check, (net, n) -> net.dead(n)));
        sentences.of("## Promise 23:");
        sentences.holds("How many of those found are ENDS.", EdgesOfWalks::ends);
        sentences.holds("BAD: n.", check -> badBounds(check, (net, n) -> net.ends(n)));
        sentences.of("## Promise 24:");
        sentences.holds("STUCK: its number as found", EdgesOfWalks::stuck);
        sentences.holds("-5.", EdgesOfWalks::noneStuck);
        sentences.holds("BAD: n.", check -> badBounds(check, (net, n) -> net.stuck(n)));
        sentences.of("## Promise 25:");
        sentences.holds("The i-th PART of the WALK to a MARKING found", EdgesOfWalks::walk);
        sentences.holds("i -1: how many.", EdgesOfWalks::walkHowMany);
        sentences.holds("BAD: n", check -> badBounds(check, (net, n) -> net.walk(n, 0, -1)));
        sentences.holds("NONE: marking, i.", EdgesOfWalks::walkNone);
        sentences.of("## Promise 26:");
        sentences.holds("How many TOKENS a PLACE has in a MARKING found.", EdgesOfWalks::held);
        sentences.holds("BAD: n", check -> badBounds(check, (net, n) -> net.held(n, 0, 0)));
        sentences.holds("NONE: marking, place.", EdgesOfWalks::heldNone);
    }

    private interface ByBound {
        int answer(TokenNet net, int n);
    }

    /** Below 1 and above 60 it is BAD; 1 and 60 are not. */
    private static void badBounds(Check check, ByBound call) {
        TokenNet net = Check.with("in 0 x;out 1 x");
        net.put(0, 5);
        for (int n : NO_BOUNDS) {
            check.due("by " + n, call.answer(net, n), -2);
        }
        check.due("by 1 is not bad", call.answer(net, 1) == -2 ? 1 : 0, 0);
        check.due("by 60 is not bad", call.answer(net, 60) == -2 ? 1 : 0, 0);
        check.due("nothing is changed", Check.line(net), "P0=5");
    }

    /** One token that becomes one more each time: a hundred markings. */
    private static TokenNet counting() {
        TokenNet net = Check.with("in 0 x;out 0 x+1");
        net.put(0, 0);
        return net;
    }

    private static void firstNow(Check check) {
        TokenNet net = Check.with("in 0 x;out 1 x;out 1 x");
        check.due("reach(1) of nothing", net.reach(1), 1);
        check.due("reach(60) of nothing", net.reach(60), 1);
        Check.put(net, 0, 4, 5);
        check.due("reach(1)", net.reach(1), 1);
        check.due("held(1, 0, 0)", net.held(1, 0, 0), 2);
        check.due("held(60, 0, 0)", net.held(60, 0, 0), 2);
        check.due("held(60, 0, 1)", net.held(60, 0, 1), 0);
        check.due("walk(60, 0, -1)", net.walk(60, 0, -1), 0);
        net.go(0);
        check.due("held(60, 0, 0) behind a go", net.held(60, 0, 0), 1);
        check.due("held(60, 0, 1) behind a go", net.held(60, 0, 1), 2);
    }

    /** 0: P0; 1 by 2: P1; 2 by 7: P2; from 1 3 by 9: P3; from 2 4 by 0: P4, 5 by 8: P5; from 3 6 by 1: P6. */
    private static void order(Check check) {
        TokenNet net = new TokenNet();
        Check.rule(net, 7, "in 0 x;out 2 x");
        Check.rule(net, 2, "in 0 x;out 1 x");
        Check.rule(net, 9, "in 1 x;out 3 x");
        Check.rule(net, 8, "in 2 x;out 5 x");
        Check.rule(net, 0, "in 2 x;out 4 x");
        Check.rule(net, 1, "in 3 x;out 6 x");
        net.put(0, 5);
        check.due("reach(60)", net.reach(60), 7);
        for (int marking = 0; marking < 7; marking++) {
            check.due("held(60, " + marking + ", " + marking + ")", net.held(60, marking, marking), 1);
        }
        int[] latest = {-1, 2, 7, 9, 0, 8, 1};
        int[] lengths = {0, 1, 1, 2, 2, 2, 3};
        for (int marking = 1; marking < 7; marking++) {
            check.due("how long to " + marking, net.walk(60, marking, -1), lengths[marking]);
            check.due("the last to " + marking, net.walk(60, marking, lengths[marking] - 1), latest[marking]);
        }
    }

    private static void foundOnce(Check check) {
        TokenNet same = Check.with("in 0 x;out 0 x");
        same.put(0, 5);
        check.due("one that is as it was", same.reach(60), 1);
        TokenNet back = Check.with("in 0 x;out 1 x", "in 1 x;out 0 x");
        back.put(0, 5);
        check.due("there and back", back.reach(60), 2);
        TokenNet two = Check.with("in 0 x;out 1 x", "in 0 x;out 1 x", "in 0 x;out 1 x+1");
        two.put(0, 5);
        check.due("by two parts to one marking", two.reach(60), 3);
        check.due("by the first of them", two.walk(60, 1, 0), 0);
        TokenNet ways = Check.with("in 0 x;out 1 x", "in 2 x;out 3 x");
        ways.put(0, 5);
        ways.put(2, 6);
        check.due("by two orders of parts", ways.reach(60), 4);
    }

    private static void untilFound(Check check) {
        TokenNet net = counting();
        for (int n = 1; n <= 60; n++) {
            check.due("reach(" + n + ")", net.reach(n), n);
        }
        check.due("reach(0)", net.reach(0), -2);
        check.due("reach(61)", net.reach(61), -2);
        TokenNet row = Check.with("in 0 x;if x<58;out 0 x+1");
        row.put(0, 0);
        check.due("59 there are", row.reach(60), 59);
        check.due("59 there are, by as many", row.reach(59), 59);
        check.due("59 there are, by one less", row.reach(58), 58);
        TokenNet two = Check.with("in 0 x;out 1 x", "in 0 x;out 2 x", "in 0 x;out 3 x");
        two.put(0, 5);
        check.due("in the midst of the parts", two.reach(3), 3);
        check.due("the last of them", two.held(3, 2, 2), 1);
        check.due("no more", two.held(3, 3, 3), -1);
    }

    /** 0: P0, 1: P1, 2: P9; from 1 only back to 0, from where the end is reached. */
    private static void leadsBack(Check check) {
        TokenNet net = Check.with("in 0 x;out 1 x", "in 0 x;out 9 x", "in 1 x;out 0 x");
        net.put(0, 5);
        check.due("stuck(60)", net.stuck(60), -5);
        check.due("stuck(3): from one that is not gone on from", net.stuck(3), -5);
        net.drop(2);
        check.due("stuck(60) without the way back", net.stuck(60), 1);
        TokenNet self = Check.with("in 0 x;out 0 x", "in 0 x;if x=7;out 9 x");
        self.put(0, 5);
        check.due("a lead to itself is no end", self.stuck(60), 0);
    }

    /** 0: P0, 1: P1, 2: P2, 3: P3 (from 1), 4: P9 (from 2), 5: P9 twice (from 3). */
    private static void leadsToNew(Check check) {
        TokenNet net = Check.with("in 0 x;out 1 x", "in 0 x;out 2 x", "in 1 x;out 3 x", "in 2 x;out 9 x",
                "in 3 x;out 9 x;out 9 x");
        net.put(0, 5);
        check.due("reach(60)", net.reach(60), 6);
        check.due("stuck(60)", net.stuck(60), -5);
        check.due("stuck(5): the end of 3 is none", net.stuck(5), 1);
        check.due("stuck(4): no end", net.stuck(4), 0);
        check.due("stuck(1): only that of now", net.stuck(1), 0);
        TokenNet ring = Check.with("in 0 x;out 1 x", "in 1 x;out 9 x", "in 9 x;out 0 x");
        ring.put(9, 5);
        check.due("stuck(2): 1 leads to a new one only", ring.stuck(2), 1);
        check.due("stuck(3): 2 leads to the end, which was found before", ring.stuck(3), -5);
    }

    private static void mostTokens(Check check) {
        TokenNet net = Check.with("in 0 x;out 1 x;out 1 x;out 1 x", "in 1 x;out 2 x", "in 1 x;empty 2");
        Check.put(net, 0, 5, 5);
        check.due("most(0, 60): that of now", net.most(0, 60), 2);
        check.due("most(1, 1): that of now alone", net.most(1, 1), 0);
        check.due("most(1, 2): one more", net.most(1, 2), 3);
        check.due("most(1, 60): full", net.most(1, 60), 6);
        check.due("most(2, 60): full", net.most(2, 60), 6);
        check.due("most(3, 60): never any", net.most(3, 60), 0);
        Check.put(net, 9, 1, 2, 3, 4, 5, 6);
        check.due("most(9, 1): full", net.most(9, 1), 6);
    }

    /** 0: P0, 1: P1, 2: P2: the parts from them are 0, 1 and 2. */
    private static void deadParts(Check check) {
        TokenNet net = Check.with("in 0 x;out 1 x", "in 1 x;out 2 x", "in 2 x;out 3 x");
        check.due("dead(60) without tokens", net.dead(60), 7);
        net.put(0, 5);
        check.due("dead(1): the first can", net.dead(1), 6);
        check.due("dead(2): one can in the last found", net.dead(2), 4);
        check.due("dead(3)", net.dead(3), 0);
        Check.put(net, 2, 1, 1, 1, 1, 1, 1);
        Check.put(net, 3, 1, 1, 1, 1, 1, 1);
        check.due("dead(60) without room", net.dead(60), 6);
        net.drop(1);
        check.due("a part without a rule is not dead", net.dead(60), 4);
        check.due("no rules", new TokenNet().dead(60), 0);
    }

    private static void anEnd(Check check) {
        TokenNet net = new TokenNet();
        check.due("no tokens", net.ends(60), 0);
        for (int place = 0; place <= 8; place++) {
            net.put(place, 9);
        }
        check.due("one in each other place", net.ends(60), 0);
        net.put(9, 0);
        check.due("a 0 in place 9", net.ends(60), 1);
        Check.put(net, 9, 1, 2, 3, 4, 5);
        check.due("place 9 is full", net.ends(60), 1);
    }

    /** The end is the last of 60; then no more; then rings beside it. */
    private static void firstStuck(Check check) {
        TokenNet row = Check.with("in 0 x;if x<58;out 0 x+1", "in 0 x;if x=58;out 9 x");
        row.put(0, 0);
        check.due("a far end", row.stuck(60), -5);
        check.due("a far end that is not found", row.stuck(59), 0);
        TokenNet end = Check.with("in 9 x;out 0 x", "in 0 x;out 1 x");
        end.put(9, 5);
        check.due("an end is not stuck", end.stuck(1), -5);
        check.due("the first behind an end", end.stuck(2), 1);
        check.due("the first behind an end, of two", end.stuck(60), 1);
        // 0: P0, 1: P1, 2: P2, 3: P9, 4: P3, and 1 and 4 in a ring.
        TokenNet ring = Check.with("in 0 x;out 1 x", "in 0 x;out 2 x", "in 0 x;out 9 x", "in 1 x;out 3 x", "in 3 x;out 1 x",
                "in 2 x;out 9 x");
        ring.put(0, 5);
        check.due("the first of a ring", ring.stuck(60), 1);
        Check.rule(ring, 6, "in 3 x;out 2 x");
        check.due("a way out of the ring", ring.stuck(60), -5);
    }

    private static void walkTo(Check check) {
        TokenNet net = counting();
        check.due("to that of now", net.walk(60, 0, -1), 0);
        check.due("no part of it", net.walk(60, 0, 0), -1);
        check.due("to the last of 60", net.walk(60, 59, -1), 59);
        // 0: P0, 1: P1, 2: P2, 3: P3, which is found from 1 by 4, not from 2 by 3.
        TokenNet two = new TokenNet();
        Check.rule(two, 1, "in 0 x;out 1 x");
        Check.rule(two, 2, "in 0 x;out 2 x");
        Check.rule(two, 3, "in 2 x;out 3 x");
        Check.rule(two, 4, "in 1 x;out 3 x");
        Check.rule(two, 5, "in 3 x;out 4 x");
        two.put(0, 5);
        int[] parts = {1, 4, 5};
        check.due("walk(60, 4, -1)", two.walk(60, 4, -1), 3);
        for (int i = 0; i < 3; i++) {
            check.due("walk(60, 4, " + i + ")", two.walk(60, 4, i), parts[i]);
        }
        two.go(1);
        check.due("from where it is now", two.walk(60, 2, -1), 2);
        check.due("its first", two.walk(60, 2, 0), 4);
    }

    private static int reachOfLine(String... rules) {
        TokenNet net = Check.with(rules);
        Check.put(net, 0, 1, 2);
        Check.put(net, 1, 3, 3);
        return net.reach(60);
    }

    private static void alike(Check check) {
        check.due("the same in the same order", reachOfLine("in 1 x;out 1 x"), 1);
        check.due("another order", reachOfLine("in 0 x;out 0 x"), 2);
        check.due("another token", reachOfLine("in 0 x;if x=1;out 0 4"), 2);
        check.due("another place", reachOfLine("in 0 x;out 2 x"), 3);
        check.due("fewer", reachOfLine("in 1 x"), 3);
        check.due("more", reachOfLine("in 1 x;out 1 x;out 1 x;if x=3"), 5);
        check.due("what was there before does not count", reachOfLine("in 0 x;out 0 9;empty 1", "in 0 x;if x=9;out 0 9"),
                3);
        TokenNet net = Check.with("in 0 x;out 1 x", "in 0 x;out 2 x", "in 1 x;empty 1", "in 2 x;empty 2");
        net.put(0, 5);
        check.due("nothing left by two ways", net.reach(60), 4);
        TokenNet ring = Check.with("in 0 x;out 1 x", "in 1 x;out 0 x");
        Check.put(ring, 0, 5, 6);
        ring.take(0, 1);
        check.due("back to where a token was taken", ring.reach(60), 2);
        TokenNet ways = Check.with("in 0 x;out 1 x", "in 0 x;out 1 x+1", "in 1 x;out 3 0", "in 1 x;if x=5;out 1 25");
        ways.put(0, 5);
        check.due("by three ways from unlike tokens", ways.reach(60), 5);
    }

    private static void reach(Check check) {
        TokenNet net = new TokenNet();
        check.due("reach(1) of nothing", net.reach(1), 1);
        check.due("reach(60) of nothing", net.reach(60), 1);
        net = counting();
        check.due("reach(1)", net.reach(1), 1);
        check.due("reach(59)", net.reach(59), 59);
        check.due("reach(60)", net.reach(60), 60);
        net.take(0, 0);
        check.due("reach(60) without the token", net.reach(60), 1);
        net.put(0, 5);
        check.due("reach(60) with it again", net.reach(60), 60);
        check.due("nothing is changed", Check.line(net), "P0=5");
        check.due("told(2)", net.told(2), 0);
    }

    private static void most(Check check) {
        TokenNet net = counting();
        Check.rule(net, 0, "in 0 x;out 0 x;out 9 x");
        for (int n = 1; n <= 60; n++) {
            check.due("most(9, " + n + ")", net.most(9, n), Math.min(6, n - 1));
        }
        check.due("most(0, 60)", net.most(0, 60), 1);
        check.due("most(5, 60)", net.most(5, 60), 0);
    }

    private static void mostNone(Check check) {
        TokenNet net = counting();
        for (int place : EdgesOfTokens.NO_PLACES) {
            check.due("most(" + place + ", 1)", net.most(place, 1), -1);
            check.due("most(" + place + ", 60)", net.most(place, 60), -1);
            check.due("most(" + place + ", 0)", net.most(place, 0), -1);
            check.due("most(" + place + ", 61)", net.most(place, 61), -1);
        }
    }

    private static void dead(Check check) {
        TokenNet net = new TokenNet();
        check.due("no rules", net.dead(1), 0);
        int want = 0;
        for (int part = 9; part >= 0; part--) {
            Check.rule(net, part, "in " + part + " x");
            want += 1 << part;
            check.due("dead(60) with part " + part, net.dead(60), want);
        }
        check.due("all ten", net.dead(60), 1023);
        net.put(9, 1);
        net.put(0, 1);
        check.due("all but two", net.dead(60), 510);
        check.due("all but two, by 1", net.dead(1), 510);
    }

    private static void ends(Check check) {
        TokenNet net = counting();
        check.due("none", net.ends(60), 0);
        net.put(9, 0);
        check.due("all by 1", net.ends(1), 1);
        check.due("all by 60", net.ends(60), 60);
        net.take(9, 0);
        Check.rule(net, 1, "in 0 x;if x=57;out 9 x");
        // 58: 58, 59: the end, found from 57 behind it.
        check.due("by 59", net.ends(59), 0);
        check.due("by 60", net.ends(60), 1);
    }

    private static void stuck(Check check) {
        check.due("nothing", new TokenNet().stuck(1), 0);
        TokenNet net = counting();
        check.due("that of now", net.stuck(60), 0);
        // 0: P9 and P0, then the end is left step by step: 1 has it still.
        TokenNet left = Check.with("in 9 x;in 0 y;if y=0;out 9 x;out 0 1", "in 9 x;in 0 y;if y=1;out 0 2");
        left.put(9, 5);
        left.put(0, 0);
        check.due("the last found", left.stuck(60), 2);
        check.due("not found yet", left.stuck(2), -5);
        TokenNet row = Check.with("in 0 x;if x<58;out 0 x+1", "in 0 x;in 9 y;if x=58");
        row.put(0, 0);
        row.put(9, 0);
        check.due("the last of 60", row.stuck(60), 59);
        check.due("one before", row.stuck(59), -5);
    }

    private static void noneStuck(Check check) {
        TokenNet net = new TokenNet();
        net.put(9, 0);
        check.due("only an end", net.stuck(1), -5);
        net = counting();
        net.put(9, 0);
        check.due("sixty ends", net.stuck(60), -5);
        TokenNet two = Check.with("in 0 x;out 9 x");
        two.put(0, 5);
        check.due("the end behind it", two.stuck(60), -5);
        check.due("the end behind it is not found", two.stuck(1), 0);
    }

    private static void walk(Check check) {
        TokenNet net = new TokenNet();
        Check.rule(net, 9, "in 0 x;if x<30;out 0 x+1");
        Check.rule(net, 0, "in 0 x;if x>29;out 0 x+1");
        net.put(0, 0);
        for (int i = 0; i < 59; i++) {
            check.due("walk(60, 59, " + i + ")", net.walk(60, 59, i), i < 30 ? 9 : 0);
        }
        check.due("walk(2, 1, 0)", net.walk(2, 1, 0), 9);
    }

    private static void walkHowMany(Check check) {
        TokenNet net = counting();
        for (int marking = 0; marking < 60; marking++) {
            check.due("walk(60, " + marking + ", -1)", net.walk(60, marking, -1), marking);
        }
        check.due("walk(1, 0, -1)", net.walk(1, 0, -1), 0);
        // A ring: that of now is found first of all.
        TokenNet ring = Check.with("in 0 x;out 1 x", "in 1 x;out 0 x");
        ring.put(0, 5);
        check.due("walk(60, 0, -1) of a ring", ring.walk(60, 0, -1), 0);
    }

    private static void walkNone(Check check) {
        TokenNet net = counting();
        for (int marking : new int[] {-1, 60, 61, Integer.MIN_VALUE, Integer.MAX_VALUE}) {
            check.due("walk(60, " + marking + ", -1)", net.walk(60, marking, -1), -1);
            check.due("walk(60, " + marking + ", 0)", net.walk(60, marking, 0), -1);
        }
        check.due("walk(59, 59, -1): not found by 59", net.walk(59, 59, -1), -1);
        check.due("walk(1, 1, -1): not found by 1", net.walk(1, 1, -1), -1);
        for (int i : new int[] {-2, 59, 60, Integer.MIN_VALUE, Integer.MAX_VALUE}) {
            check.due("walk(60, 59, " + i + ")", net.walk(60, 59, i), -1);
        }
        check.due("walk(60, 0, 0)", net.walk(60, 0, 0), -1);
        check.due("walk(60, 5, 5)", net.walk(60, 5, 5), -1);
    }

    private static void held(Check check) {
        TokenNet net = Check.with("in 0 x;out 0 x;out 9 x");
        net.put(0, 5);
        for (int marking = 0; marking <= 6; marking++) {
            check.due("held(60, " + marking + ", 9)", net.held(60, marking, 9), marking);
            check.due("held(60, " + marking + ", 0)", net.held(60, marking, 0), 1);
            check.due("held(60, " + marking + ", 5)", net.held(60, marking, 5), 0);
        }
        check.due("held(1, 0, 0)", net.held(1, 0, 0), 1);
        check.due("held(7, 6, 9)", net.held(7, 6, 9), 6);
    }

    private static void heldNone(Check check) {
        TokenNet net = counting();
        for (int marking : new int[] {-1, 60, 61, Integer.MIN_VALUE, Integer.MAX_VALUE}) {
            check.due("held(60, " + marking + ", 0)", net.held(60, marking, 0), -1);
        }
        check.due("held(59, 59, 0): not found by 59", net.held(59, 59, 0), -1);
        check.due("held(1, 1, 0): not found by 1", net.held(1, 1, 0), -1);
        for (int place : EdgesOfTokens.NO_PLACES) {
            check.due("held(60, 0, " + place + ")", net.held(60, 0, place), -1);
            check.due("held(60, 59, " + place + ")", net.held(60, 59, place), -1);
        }
        check.due("held(60, 59, 0)", net.held(60, 59, 0), 1);
    }
}
