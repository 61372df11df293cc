/** Boundary cases of answers, refused calls and the image, and promises 31 to 33. */
final class EdgesOfAnswers {
    private static final String[] RULES = {"in 0 x;if x>1;out 9 x", "in 1 y;out 2 y", "in 0 x;if x>50"};

    static void tell(Sentences sentences) {
        sentences.of("## What it is");
        sentences.holds("An object is used for at most 512 calls after it has been made", EdgesOfAnswers::manyCalls);
        sentences.of("Answers:");
        sentences.holds("NONE (-1) no such number; BAD (-2) a number is not as told; STATE (-3) as told; FULL (-4)",
                EdgesOfAnswers::numbers);
        sentences.holds("the first that a call's words name.", EdgesOfAnswers::firstNamed);
        sentences.holds("What is answered so changes nothing.", EdgesOfAnswers::changesNothing);
        sentences.holds("-100 less the FAULT of a text", EdgesOfAnswers::lessTheFault);
        sentences.holds("THE TAPE is empty behind each call that reads it.", EdgesOfAnswers::tapeIsEmpty);
        sentences.of("The constants:");
        sentences.holds("NO = Long.MIN_VALUE", EdgesOfAnswers::no);
        sentences.of("==== 4");
        sentences.holds("THE IMAGE: TOKENS, RULES, WENT.", EdgesOfAnswers::theImage);
        sentences.of("## Promise 31:");
        sentences.holds("What 0 TOKENS of all", EdgesOfAnswers::toldTokens);
        sentences.holds("1 how many PARTS have a RULE", EdgesOfAnswers::toldParts);
        sentences.holds("2 WENT", EdgesOfAnswers::toldWent);
        sentences.holds("3 bytes of THE TAPE", EdgesOfAnswers::toldTape);
        sentences.holds("4 bytes of THE PAPER.", EdgesOfAnswers::toldPaper);
        sentences.holds("NONE", EdgesOfAnswers::toldNone);
        sentences.of("## Promise 32:");
        sentences.holds("THE IMAGE is taken: how many TOKENS there are.", EdgesOfAnswers::image);
        sentences.of("## Promise 33:");
        sentences.holds("All is as THE IMAGE: how many TOKENS.", EdgesOfAnswers::undo);
        sentences.holds("STATE: there is none.", EdgesOfAnswers::undoState);
    }

    /** A net with tokens, rules, an image, something on the tape and on the paper; part 3 has no rule. */
    private static TokenNet busy() {
        TokenNet net = Check.with(RULES);
        Check.put(net, 0, 1, 2, 3);
        Check.put(net, 1, 4, 5, 6, 7, 8, 9);
        net.image();
        net.go(0);
        net.put(0, 6);
        net.line();
        Check.feed(net, "in 7 z;");
        return net;
    }

    /** All that a net tells of itself; the net is not as before then. */
    private static String whole(TokenNet net) {
        StringBuilder text = new StringBuilder(Check.paper(net));
        for (int what = 0; what <= 4; what++) {
            text.append(' ').append(net.told(what));
        }
        text.append('\n').append(tokensAndRules(net));
        Check.feed(net, "out 8 z");
        text.append("tape ").append(net.rule(9)).append(Check.spelled(net, 9)).append('\n');
        text.append("undo ").append(net.undo()).append(tokensAndRules(net)).append(net.told(2));
        return text.toString();
    }

    private static String tokensAndRules(TokenNet net) {
        StringBuilder text = new StringBuilder(Check.line(net)).append('\n');
        for (int part = 0; part <= 9; part++) {
            text.append(Check.spelled(net, part)).append('\n');
        }
        text.append("all ").append(net.all()).append(" reach ").append(net.reach(60)).append('\n');
        return text.toString();
    }

    private interface Call {
        long answer(TokenNet net);
    }

    private static void refused(Check check, String call, long want, Call what) {
        TokenNet net = busy();
        check.due(call, what.answer(net), want);
        check.due("the net behind " + call, whole(net), whole(busy()));
    }

    private static void manyCalls(Check check) {
        TokenNet net = new TokenNet();
        Check.rule(net, 0, "in 0 x;out 0 x+1");
        net.put(0, 0);
        int calls = 16 + 1 + 1;
        for (int went = 1; calls < 511; went++) {
            check.due("go(0)", net.go(0), went);
            calls++;
        }
        check.due("call 512", net.token(0, 0), 493 % 100);
        TokenNet rules = new TokenNet();
        for (int i = 0; i < 73; i++) {
            check.due("rule " + i, Check.rule(rules, i % 10, "in " + i % 10 + " x"), 1);
        }
        check.due("call 512", rules.told(1), 10);
    }

    private static void numbers(Check check) {
        check.due("NONE", TokenNet.NONE, -1);
        check.due("BAD", TokenNet.BAD, -2);
        check.due("STATE", TokenNet.STATE, -3);
        check.due("FULL", TokenNet.FULL, -4);
        TokenNet net = new TokenNet();
        check.due("no such number", net.put(10, 5), -1);
        check.due("a number is not as told", net.put(9, 100), -2);
        check.due("as told", net.drop(0), -3);
        Check.put(net, 0, 1, 2, 3, 4, 5, 6);
        check.due("full", net.put(0, 5), -4);
    }

    private static void firstNamed(Check check) {
        TokenNet net = busy();
        check.due("put: NONE ahead of BAD", net.put(10, 100), -1);
        check.due("put: BAD ahead of FULL", net.put(1, 100), -2);
        check.due("has: NONE of what ahead of STATE", net.has(3, 4), -1);
        check.due("bound: STATE ahead of NONE of i", net.bound(3, 7), -3);
        check.due("bound: NONE of part ahead of STATE", net.bound(10, 7), -1);
        check.due("bound: NONE of i ahead of -5", net.bound(2, 1), -1);
        check.due("last: BAD of set ahead of NONE", net.last(1024, 1, 10), -2);
        check.due("last: BAD of n ahead of NONE", net.last(1, 0, 10), -2);
        check.due("most: NONE ahead of BAD", net.most(10, 0), -1);
        check.due("walk: BAD ahead of NONE", net.walk(0, 99, 99), -2);
        check.due("held: BAD ahead of NONE", net.held(61, 99, 99), -2);
        check.due("change: NONE ahead of STATE", net.change(3, 10), -1);
        check.due("rule: NONE ahead of a fault", net.rule(10), -1);
        net.clear();
        for (int i = 0; i < 80; i++) {
            net.feed('a');
        }
        check.due("feed: BAD ahead of FULL", net.feed(128), -2);
    }

    private static void changesNothing(Check check) {
        refused(check, "put(10, 5)", -1, net -> net.put(10, 5));
        refused(check, "put(0, 100)", -2, net -> net.put(0, 100));
        refused(check, "put(0, -1)", -2, net -> net.put(0, -1));
        refused(check, "put(1, 5)", -4, net -> net.put(1, 5));
        refused(check, "take(-1, 0)", -1, net -> net.take(-1, 0));
        refused(check, "take(0, 3)", -1, net -> net.take(0, 3));
        refused(check, "take(0, -1)", -1, net -> net.take(0, -1));
        refused(check, "token(0, 3)", -1, net -> net.token(0, 3));
        refused(check, "feed(0)", -2, net -> net.feed(0));
        refused(check, "feed(128)", -2, net -> net.feed(128));
        refused(check, "rule(10)", -1, net -> net.rule(10));
        refused(check, "drop(10)", -1, net -> net.drop(10));
        refused(check, "drop(3)", -3, net -> net.drop(3));
        refused(check, "has(0, 4)", -1, net -> net.has(0, 4));
        refused(check, "has(3, 0)", -3, net -> net.has(3, 0));
        refused(check, "spell(10)", -1, net -> net.spell(10));
        refused(check, "spell(3)", -3, net -> net.spell(3));
        refused(check, "paper(99)", -1, net -> net.paper(99));
        refused(check, "can(3)", -3, net -> net.can(3));
        refused(check, "bound(2, 0)", -5, net -> net.bound(2, 0));
        refused(check, "bound(0, 1)", -1, net -> net.bound(0, 1));
        refused(check, "bindings(3)", -3, net -> net.bindings(3));
        refused(check, "go(10)", -1, net -> net.go(10));
        refused(check, "go(3)", -3, net -> net.go(3));
        refused(check, "go(2)", -3, net -> net.go(2));
        refused(check, "again(1024, 5)", -2, net -> net.again(1024, 5));
        refused(check, "again(1023, 201)", -2, net -> net.again(1023, 201));
        refused(check, "last(1023, 5, 10)", -1, net -> net.last(1023, 5, 10));
        refused(check, "last(1023, 5, 5)", -5, net -> net.last(1023, 5, 5));
        refused(check, "reach(61)", -2, net -> net.reach(61));
        refused(check, "most(10, 60)", -1, net -> net.most(10, 60));
        refused(check, "dead(0)", -2, net -> net.dead(0));
        refused(check, "ends(0)", -2, net -> net.ends(0));
        refused(check, "stuck(60)", -5, net -> net.stuck(60));
        refused(check, "walk(60, 99, 0)", -1, net -> net.walk(60, 99, 0));
        refused(check, "held(60, 0, 10)", -1, net -> net.held(60, 0, 10));
        refused(check, "change(3, 0)", -3, net -> net.change(3, 0));
        refused(check, "weight(10, 0, 0)", Long.MIN_VALUE, net -> net.weight(10, 0, 0));
        refused(check, "sum(10, 0)", -1, net -> net.sum(10, 0));
        refused(check, "told(5)", -1, net -> net.told(5));
        fullTape(check);
    }

    private static void fullTape(Check check) {
        TokenNet net = new TokenNet();
        Check.feed(net, EdgesOfTexts.LONGEST);
        check.due("feed onto a full tape", net.feed('y'), -4);
        check.due("rule(0) of what was there", net.rule(0), 2);
        check.due("rule 0", Check.spelled(net, 0), EdgesOfTexts.LONGEST);
    }

    private static void lessTheFault(Check check) {
        TokenNet net = new TokenNet();
        check.due("fault 0", net.rule(0), -100);
        check.due("fault 1", Check.rule(net, 0, "in 0 x;in 0 x;in 0 x;out 9 " + "9".repeat(53)), -128 + -1);
        check.due("fault 79", Check.rule(net, 0, "in 0 x;out 1 " + "1+".repeat(33) + ";"), -179);
        check.due("fault 80", Check.rule(net, 0, "in 0 x;out 1 " + "1+".repeat(33) + "("), -180);
    }

    private static void tapeIsEmpty(Check check) {
        TokenNet net = new TokenNet();
        Check.rule(net, 0, "in 0 x");
        check.due("behind a rule", net.told(3), 0);
        Check.rule(net, 0, "in 0 x;oops");
        check.due("behind a faulty text", net.told(3), 0);
        net.rule(0);
        check.due("behind no text", net.told(3), 0);
        check.due("clear() then", net.clear(), 0);
        check.due("the next text is on its own", Check.rule(net, 0, "in 1 y"), 1);
        Check.feed(net, "in 2");
        check.due("rule(10)", net.rule(10), -1);
        net.spell(0);
        net.line();
        net.undo();
        check.due("behind calls that do not read it", net.told(3), 4);
    }

    private static void no(Check check) {
        check.due("NO", TokenNet.NO, Long.MIN_VALUE);
        check.due("weight(10, 0, 0)", new TokenNet().weight(10, 0, 0), TokenNet.NO);
    }

    private static void theImage(Check check) {
        TokenNet net = Check.with("in 0 x;out 1 x", "in 1 x");
        Check.put(net, 0, 1, 2, 3);
        net.go(0);
        net.image();
        net.go(0);
        net.take(0, 0);
        net.drop(1);
        Check.rule(net, 0, "in 5 z");
        Check.rule(net, 9, "in 9 z");
        Check.put(net, 9, 9);
        net.line();
        Check.feed(net, "in");
        net.undo();
        check.due("the paper is none of it", Check.paper(net), "P1=1,2 P9=9");
        check.due("the tape is none of it", net.told(3), 2);
        check.due("tokens", Check.line(net), "P0=2,3 P1=1");
        check.due("rule 0", Check.spelled(net, 0), "in 0 x;out 1 x");
        check.due("rule 1", Check.spelled(net, 1), "in 1 x");
        check.due("rule 9", net.spell(9), -3);
        check.due("WENT", net.told(2), 1);
        check.due("walks from then", net.reach(60), 9);
        net.put(0, 9);
        check.due("walks from one token more", net.reach(60), 14);
        net.undo();
        check.due("walks from then once more", net.reach(60), 9);
    }

    private static void toldTokens(Check check) {
        TokenNet net = new TokenNet();
        for (int count = 0; count < 60; count++) {
            check.due("told(0)", net.told(0), count);
            net.put(count % 10, 99);
        }
        check.due("told(0) of full places", net.told(0), 60);
        net.put(0, 1);
        check.due("told(0) behind one too many", net.told(0), 60);
        net.take(9, 5);
        check.due("told(0) behind a take", net.told(0), 59);
    }

    private static void toldParts(Check check) {
        TokenNet net = new TokenNet();
        for (int part = 0; part <= 9; part++) {
            check.due("told(1)", net.told(1), part);
            Check.rule(net, part, "in 0 x");
        }
        check.due("told(1) of all", net.told(1), 10);
        Check.rule(net, 9, "in 9 x");
        check.due("told(1) behind another rule", net.told(1), 10);
        Check.rule(net, 9, "in");
        check.due("told(1) behind a fault", net.told(1), 10);
        net.drop(9);
        check.due("told(1) behind a drop", net.told(1), 9);
    }

    private static void toldWent(Check check) {
        TokenNet net = Check.with("in 0 x;out 0 x");
        check.due("told(2) at first", net.told(2), 0);
        net.go(0);
        check.due("told(2) behind one that can't", net.told(2), 0);
        net.put(0, 1);
        net.go(0);
        net.go(0);
        check.due("told(2)", net.told(2), 2);
        net.again(1, 200);
        net.reach(60);
        check.due("told(2) behind again", net.told(2), 2);
        net.drop(0);
        check.due("told(2) behind a drop", net.told(2), 2);
    }

    private static void toldTape(Check check) {
        TokenNet net = new TokenNet();
        for (int bytes = 0; bytes < 80; bytes++) {
            check.due("told(3)", net.told(3), bytes);
            net.feed('a');
        }
        check.due("told(3) of a full tape", net.told(3), 80);
        net.feed('a');
        check.due("told(3) behind one too many", net.told(3), 80);
        net.clear();
        check.due("told(3) behind clear", net.told(3), 0);
    }

    private static void toldPaper(Check check) {
        TokenNet net = Check.with("in 0 x");
        check.due("told(4) at first", net.told(4), 0);
        net.spell(0);
        check.due("told(4) behind spell", net.told(4), 6);
        net.line();
        check.due("told(4) behind line", net.told(4), 0);
        for (int place = 0; place <= 9; place++) {
            Check.put(net, place, 10, 10, 10, 10, 10, 10);
        }
        check.due("told(4) until the next line", net.told(4), 0);
        net.line();
        check.due("told(4) of the longest line", net.told(4), 209);
    }

    private static void toldNone(Check check) {
        for (int what : new int[] {-1, 5, -2, 6, Integer.MIN_VALUE, Integer.MAX_VALUE}) {
            check.due("told(" + what + ")", busy().told(what), -1);
        }
    }

    private static void image(Check check) {
        TokenNet net = Check.with("in 0 x");
        check.due("image() of nothing", net.image(), 0);
        net.put(0, 7);
        check.due("image() of one", net.image(), 1);
        for (int place = 0; place <= 9; place++) {
            Check.put(net, place, 1, 1, 1, 1, 1, 1);
        }
        check.due("image() of full places", net.image(), 60);
        net.go(0);
        net.take(9, 0);
        check.due("undo() to the latest", net.undo(), 60);
        check.due("its first token", net.token(0, 0), 7);
        check.due("image() changes nothing", net.told(0), 60);
    }

    private static void undo(Check check) {
        TokenNet net = new TokenNet();
        net.image();
        Check.rule(net, 0, "in 0 x");
        for (int place = 0; place <= 9; place++) {
            Check.put(net, place, 1, 2, 3, 4, 5, 6);
        }
        net.go(0);
        check.due("undo() to nothing", net.undo(), 0);
        for (int what = 0; what <= 3; what++) {
            check.due("told(" + what + ")", net.told(what), 0);
        }
        check.due("line()", net.line(), 0);
        check.due("undo() once more", net.undo(), 0);
        net.put(0, 5);
        check.due("undo() once more", net.undo(), 0);
        check.due("tokens", net.told(0), 0);
        Check.put(net, 3, 9, 8, 9);
        net.image();
        net.take(3, 0);
        check.due("undo() to another one", net.undo(), 3);
        check.due("line", Check.line(net), "P3=9,8,9");
        net.put(3, 7);
        check.due("the image stays as it was taken", net.undo(), 3);
        check.due("line", Check.line(net), "P3=9,8,9");
    }

    private static void undoState(Check check) {
        TokenNet net = Check.with("in 0 x;out 1 x");
        Check.put(net, 0, 1, 2);
        net.go(0);
        check.due("undo()", net.undo(), -3);
        check.due("undo() once more", net.undo(), -3);
        check.due("line", Check.line(net), "P0=2 P1=1");
        check.due("told(1)", net.told(1), 1);
        check.due("told(2)", net.told(2), 1);
        net.image();
        check.due("undo() behind image", net.undo(), 2);
    }
}
