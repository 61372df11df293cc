/** Boundary cases of places and their tokens, and promises 1 to 4. */
final class EdgesOfTokens {
    static final int[] NO_PLACES = {-1, 10, -2, 11, 100, Integer.MIN_VALUE, Integer.MAX_VALUE};

    static void tell(Sentences sentences) {
        sentences.of("==== 1");
        sentences.holds("PLACES are 0 .. 9", EdgesOfTokens::places);
        sentences.holds("each with TOKENS (0 .. 99)", EdgesOfTokens::tokens);
        sentences.holds("6 at most", EdgesOfTokens::sixAtMost);
        sentences.holds("in the order in which they came", EdgesOfTokens::order);
        sentences.holds("(none at first)", EdgesOfTokens::noneAtFirst);
        sentences.holds("PARTS are 0 .. 9", EdgesOfTokens::parts);
        sentences.holds("each with a RULE or without one (all so at first)", EdgesOfTokens::noRuleAtFirst);
        sentences.of("## Promise 1:");
        sentences.holds("No TOKENS, no RULES.", EdgesOfTokens::newObject);
        sentences.of("## Promise 2:");
        sentences.holds("A TOKEN comes last in a PLACE: how many it has.", EdgesOfTokens::put);
        sentences.holds("NONE", EdgesOfTokens::putNone);
        sentences.holds("BAD: token", EdgesOfTokens::putBad);
        sentences.holds("FULL", EdgesOfTokens::putFull);
        sentences.of("## Promise 3:");
        sentences.holds("The i-th TOKEN of a PLACE is gone: which it was.", EdgesOfTokens::take);
        sentences.holds("NONE: place, i.", EdgesOfTokens::takeNone);
        sentences.of("## Promise 4:");
        sentences.holds("The i-th TOKEN of a PLACE", EdgesOfTokens::token);
        sentences.holds("i -1: how many", EdgesOfTokens::tokenHowMany);
        sentences.holds("NONE: place, i.", EdgesOfTokens::tokenNone);
    }

    private static void places(Check check) {
        TokenNet net = new TokenNet();
        for (int place = 0; place <= 9; place++) {
            check.due("put into " + place, net.put(place, 10 + place), 1);
        }
        for (int place = 0; place <= 9; place++) {
            check.due("token of " + place, net.token(place, 0), 10 + place);
            check.due("tokens of " + place, net.token(place, -1), 1);
        }
        for (int place : NO_PLACES) {
            check.due("put into " + place, net.put(place, 5), -1);
            check.due("tokens of " + place, net.token(place, -1), -1);
            check.due("take from " + place, net.take(place, 0), -1);
        }
        check.due("line", Check.line(net), "P0=10 P1=11 P2=12 P3=13 P4=14 P5=15 P6=16 P7=17 P8=18 P9=19");
    }

    private static void tokens(Check check) {
        TokenNet net = new TokenNet();
        check.due("the least", net.put(0, 0), 1);
        check.due("the greatest", net.put(0, 99), 2);
        check.due("one too small", net.put(0, -1), -2);
        check.due("one too great", net.put(0, 100), -2);
        check.due("the least is kept", net.token(0, 0), 0);
        check.due("the greatest is kept", net.token(0, 1), 99);
        check.due("no other is", net.token(0, -1), 2);
        for (int token = 0; token <= 99; token++) {
            net.put(1, token);
            check.due("token " + token + " taken again", net.take(1, 0), token);
        }
    }

    private static void sixAtMost(Check check) {
        for (int place = 0; place <= 9; place++) {
            TokenNet net = new TokenNet();
            for (int i = 1; i <= 6; i++) {
                check.due("put " + i + " into " + place, net.put(place, i), i);
            }
            check.due("put 7 into " + place, net.put(place, 7), -4);
            check.due("tokens of " + place, net.token(place, -1), 6);
            check.due("tokens of all", net.told(0), 6);
        }
    }

    private static void order(Check check) {
        TokenNet net = new TokenNet();
        Check.put(net, 4, 3, 9, 3, 0, 99, 1);
        check.due("as they came", Check.line(net), "P4=3,9,3,0,99,1");
        net.take(4, 0);
        net.put(4, 3);
        check.due("the first goes and comes again", Check.line(net), "P4=9,3,0,99,1,3");
    }

    private static void noneAtFirst(Check check) {
        TokenNet net = new TokenNet();
        for (int place = 0; place <= 9; place++) {
            check.due("tokens of " + place, net.token(place, -1), 0);
            check.due("the first of " + place, net.token(place, 0), -1);
        }
        check.due("line()", net.line(), 0);
    }

    private static void parts(Check check) {
        TokenNet net = new TokenNet();
        for (int part = 0; part <= 9; part++) {
            check.due("rule(" + part + ")", Check.rule(net, part, "in " + part + " y"), 1);
        }
        for (int part = 0; part <= 9; part++) {
            check.due("rule " + part, Check.spelled(net, part), "in " + part + " y");
        }
        for (int part : NO_PLACES) {
            check.due("rule(" + part + ")", Check.rule(net, part, "in 0 x"), -1);
            check.due("drop(" + part + ")", net.drop(part), -1);
            check.due("can(" + part + ")", net.can(part), -1);
            net.clear();
        }
        check.due("parts with a rule", net.told(1), 10);
    }

    private static void noRuleAtFirst(Check check) {
        TokenNet net = new TokenNet();
        for (int part = 0; part <= 9; part++) {
            check.due("drop(" + part + ")", net.drop(part), -3);
            check.due("can(" + part + ")", net.can(part), -3);
        }
        check.due("parts with a rule", net.told(1), 0);
        Check.rule(net, 4, "in 0 x");
        check.due("drop(3)", net.drop(3), -3);
        check.due("drop(5)", net.drop(5), -3);
        check.due("drop(4)", net.drop(4), 1);
    }

    private static void newObject(Check check) {
        TokenNet used = Check.with("in 0 x", "in 1 y;out 0 y");
        Check.put(used, 0, 1, 2, 3);
        used.go(0);
        used.image();
        used.line();
        used.feed('a');
        TokenNet net = new TokenNet();
        for (int what = 0; what <= 4; what++) {
            check.due("told(" + what + ")", net.told(what), 0);
        }
        check.due("all()", net.all(), 0);
        check.due("rule 0", net.spell(0), -3);
        check.due("line()", net.line(), 0);
        check.due("undo()", net.undo(), -3);
        check.due("clear()", net.clear(), 0);
        check.due("the other one", Check.line(used), "P0=2,3");
    }

    private static void put(Check check) {
        TokenNet net = new TokenNet();
        for (int i = 1; i <= 6; i++) {
            check.due("put " + i, net.put(9, 10 * i), i);
            check.due("the last one", net.token(9, i - 1), 10 * i);
        }
        check.due("put into another place", net.put(8, 5), 1);
        net.take(9, 2);
        check.due("put behind a take", net.put(9, 70), 6);
        check.due("line", Check.line(net), "P8=5 P9=10,20,40,50,60,70");
    }

    private static void putNone(Check check) {
        TokenNet net = new TokenNet();
        for (int place : NO_PLACES) {
            check.due("put(" + place + ", 0)", net.put(place, 0), -1);
            check.due("put(" + place + ", 100)", net.put(place, 100), -1);
        }
        check.due("tokens of all", net.told(0), 0);
    }

    private static void putBad(Check check) {
        TokenNet net = new TokenNet();
        Check.put(net, 1, 1, 2, 3, 4, 5, 6);
        for (int token : new int[] {-1, 100, -100, 101, 199, Integer.MIN_VALUE, Integer.MAX_VALUE}) {
            check.due("put(0, " + token + ")", net.put(0, token), -2);
            check.due("put(1, " + token + "), a full place", net.put(1, token), -2);
        }
        check.due("line", Check.line(net), "P1=1,2,3,4,5,6");
    }

    private static void putFull(Check check) {
        TokenNet net = new TokenNet();
        for (int place = 0; place <= 9; place++) {
            Check.put(net, place, 1, 2, 3, 4, 5, 6);
            check.due("put(" + place + ", 0)", net.put(place, 0), -4);
            check.due("put(" + place + ", 99)", net.put(place, 99), -4);
        }
        check.due("tokens of all", net.told(0), 60);
        net.take(9, 5);
        check.due("put(9, 0) with room again", net.put(9, 0), 6);
        check.due("put(8, 0) as full as before", net.put(8, 0), -4);
        check.due("the last of 9", net.token(9, 5), 0);
    }

    private static void take(Check check) {
        TokenNet net = new TokenNet();
        Check.put(net, 0, 10, 20, 30, 40, 50, 60);
        Check.put(net, 1, 1, 2);
        check.due("the last of six", net.take(0, 5), 60);
        check.due("the first of five", net.take(0, 0), 10);
        check.due("one in the middle of four", net.take(0, 1), 30);
        check.due("line", Check.line(net), "P0=20,40,50 P1=1,2");
        check.due("the first", net.take(0, 0), 20);
        check.due("the last", net.take(0, 1), 50);
        check.due("the only one", net.take(0, 0), 40);
        check.due("line", Check.line(net), "P1=1,2");
        check.due("tokens of 0", net.token(0, -1), 0);
    }

    private static void takeNone(Check check) {
        TokenNet net = new TokenNet();
        Check.put(net, 0, 7, 8);
        Check.put(net, 9, 1, 2, 3, 4, 5, 6);
        for (int place : NO_PLACES) {
            check.due("take(" + place + ", 0)", net.take(place, 0), -1);
        }
        for (int i : new int[] {-1, -2, 6, 7, Integer.MIN_VALUE, Integer.MAX_VALUE}) {
            check.due("take(9, " + i + ")", net.take(9, i), -1);
        }
        check.due("take(0, 2)", net.take(0, 2), -1);
        check.due("take(5, 0) of an empty place", net.take(5, 0), -1);
        net.take(0, 1);
        check.due("take(0, 1) behind the last", net.take(0, 1), -1);
        check.due("line", Check.line(net), "P0=7 P9=1,2,3,4,5,6");
    }

    private static void token(Check check) {
        TokenNet net = new TokenNet();
        Check.put(net, 0, 0, 99, 5, 0, 7, 98);
        Check.put(net, 9, 42);
        int[] want = {0, 99, 5, 0, 7, 98};
        for (int i = 0; i < 6; i++) {
            check.due("token(0, " + i + ")", net.token(0, i), want[i]);
        }
        check.due("token(9, 0)", net.token(9, 0), 42);
        check.due("tokens of all", net.told(0), 7);
    }

    private static void tokenHowMany(Check check) {
        TokenNet net = new TokenNet();
        for (int i = 0; i <= 6; i++) {
            check.due("token(9, -1)", net.token(9, -1), i);
            net.put(9, 50);
        }
        check.due("token(9, -1) behind a 7th", net.token(9, -1), 6);
        check.due("token(0, -1)", net.token(0, -1), 0);
    }

    private static void tokenNone(Check check) {
        TokenNet net = new TokenNet();
        Check.put(net, 0, 7, 8);
        Check.put(net, 9, 1, 2, 3, 4, 5, 6);
        for (int place : NO_PLACES) {
            check.due("token(" + place + ", 0)", net.token(place, 0), -1);
            check.due("token(" + place + ", -1)", net.token(place, -1), -1);
        }
        for (int i : new int[] {-2, 6, 7, Integer.MIN_VALUE, Integer.MAX_VALUE}) {
            check.due("token(9, " + i + ")", net.token(9, i), -1);
        }
        check.due("token(0, 2)", net.token(0, 2), -1);
        check.due("token(5, 0) of an empty place", net.token(5, 0), -1);
        net.take(0, 1);
        check.due("token(0, 1) that is gone", net.token(0, 1), -1);
    }
}
