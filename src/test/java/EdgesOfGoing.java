/** Boundary cases of rules, bindings and going, of going again, and promises 13 to 19. */
final class EdgesOfGoing {
    static final int[] NO_SETS = {-1, 1024, -1024, 2047, Integer.MIN_VALUE, Integer.MAX_VALUE};
    static final int[] NO_TIMES = {0, 201, -1, -200, 1000, Integer.MIN_VALUE, Integer.MAX_VALUE};

    static void tell(Sentences sentences) {
        sentences.of("==== 1");
        sentences.holds("TAKES (1 .. 3)", EdgesOfGoing::takes);
        sentences.holds("each a PLACE and a NAME (x, y or z)", EdgesOfGoing::names);
        sentences.holds("GIVES (0 .. 3)", EdgesOfGoing::gives);
        sentences.holds("EXPRESSIONS are worked out with ints (which go round, where they are too great)", EdgesOfGoing::ints);
        sentences.holds("a TOKEN given is that modulo 100, 0 or more.", EdgesOfGoing::modulo);
        sentences.holds("one of the TOKENS of its PLACE that none of the TAKES ahead has, by its number there",
                EdgesOfGoing::ownTokens);
        sentences.holds("TAKES of one NAME have TOKENS that are equal", EdgesOfGoing::equalTokens);
        sentences.holds("with NAMES as these TOKENS all CONDITIONS hold.", EdgesOfGoing::conditions);
        sentences.holds("of all, that by which the first of TAKES has the earliest TOKEN, of those the second, and so on.",
                EdgesOfGoing::firstBinding);
        sentences.holds("it CAN, if it has a RULE and a BINDING, and behind all there is room.", EdgesOfGoing::canGo);
        sentences.holds("these TOKENS are gone (those left keep their order)", EdgesOfGoing::tokensGone);
        sentences.holds("then the PLACES that it EMPTIES have none", EdgesOfGoing::emptied);
        sentences.holds("then each of GIVES, in order, is the last TOKEN of its PLACE.", EdgesOfGoing::given);
        sentences.holds("No room (a 7th TOKEN in one): it can't GO, and nothing is changed.", EdgesOfGoing::noRoom);
        sentences.holds("WENT is 1 more.", EdgesOfGoing::went);
        sentences.of("Said once more.");
        sentences.holds("Room is looked at as each GIVE comes, behind all TAKES and EMPTIES.", EdgesOfGoing::roomAsGivesCome);
        sentences.of("## Promise 13:");
        sentences.holds("Whether it CAN GO: 1, 0.", EdgesOfGoing::can);
        sentences.holds("NONE", check -> refused(check, -1, TokenNet::can));
        sentences.holds("STATE: no RULE.", check -> refused(check, -3, TokenNet::can));
        sentences.of("## Promise 14:");
        sentences.holds("The number, in its PLACE, of the TOKEN that the i-th of TAKES has by the FIRST BINDING",
                EdgesOfGoing::bound);
        sentences.holds("-5: there is no BINDING.", EdgesOfGoing::boundWithoutBinding);
        sentences.holds("NONE: part; STATE: no RULE", EdgesOfGoing::boundRefused);
        sentences.holds("NONE: i (no such TAKE; ahead of -5).", EdgesOfGoing::boundNoTake);
        sentences.of("## Promise 15:");
        sentences.holds("How many BINDINGS it has (by numbers, equal TOKENS, too).", EdgesOfGoing::bindings);
        sentences.holds("NONE", check -> refused(check, -1, TokenNet::bindings));
        sentences.holds("STATE: no RULE.", check -> refused(check, -3, TokenNet::bindings));
        sentences.of("## Promise 16:");
        sentences.holds("It GOES: WENT.", EdgesOfGoing::go);
        sentences.holds("NONE", check -> refused(check, -1, TokenNet::go));
        sentences.holds("STATE: no RULE", check -> refused(check, -3, TokenNet::go));
        sentences.holds("or it can't.", EdgesOfGoing::goCannot);
        sentences.of("## Promise 17:");
        sentences.holds("The PARTS (bits) that CAN GO.", EdgesOfGoing::all);
        sentences.of("==== 4");
        sentences.holds("n (1 .. 200) times", EdgesOfGoing::times);
        sentences.holds("the PART of the least number that CAN GO of a told set GOES", EdgesOfGoing::leastNumber);
        sentences.holds("how often that was", EdgesOfGoing::howOften);
        sentences.holds("nothing of it stays.", EdgesOfGoing::nothingStays);
        sentences.holds("the latest TOKEN of a PLACE behind that.", EdgesOfGoing::latestToken);
        sentences.of("## Promise 18:");
        sentences.holds("AGAIN by a set of PARTS (bits).", EdgesOfGoing::again);
        sentences.holds("BAD: set (0 .. 1023)", EdgesOfGoing::againBadSet);
        sentences.holds("set (0 .. 1023), n.", EdgesOfGoing::againBadTimes);
        sentences.of("## Promise 19:");
        sentences.holds("-5: there is none.", EdgesOfGoing::lastNone);
        sentences.holds("BAD: set, n", EdgesOfGoing::lastBad);
        sentences.holds("NONE: place.", EdgesOfGoing::lastNoPlace);
    }

    private interface OfPart {
        int answer(TokenNet net, int part);
    }

    /** -1: parts that are none; -3: parts without a rule. */
    private static void refused(Check check, int want, OfPart call) {
        TokenNet net = Check.with("in 0 x", "in 0 x", "in 0 x");
        net.put(0, 5);
        net.drop(1);
        for (int part : want == -1 ? EdgesOfTokens.NO_PLACES : new int[] {1, 3, 9}) {
            check.due("of part " + part, call.answer(net, part), want);
        }
        check.due("line", Check.line(net), "P0=5");
        check.due("told(2)", net.told(2), 0);
    }

    private static void takes(Check check) {
        check.due("none", Check.rule(new TokenNet(), 0, "out 1 1"), -107);
        check.due("four", Check.rule(new TokenNet(), 0, "in 0 x;in 0 x;in 0 x;in 0 x"), -121);
        TokenNet net = Check.with("in 9 z;out 1 z", "in 0 x;in 9 y;in 0 z;out 2 x;out 2 y;out 2 z");
        Check.put(net, 9, 7, 8);
        Check.put(net, 0, 5, 6);
        check.due("one goes", net.go(0), 1);
        check.due("three go", net.go(1), 2);
        check.due("line", Check.line(net), "P1=7 P2=5,8,6");
    }

    private static void names(Check check) {
        check.due("one ahead of x", Check.rule(new TokenNet(), 0, "in 0 w"), -105);
        check.due("one behind z", Check.rule(new TokenNet(), 0, "in 0 {"), -105);
        for (char name = 'x'; name <= 'z'; name++) {
            TokenNet net = Check.with("in 9 " + name + ";if " + name + "=42;out 0 " + name + "+1");
            Check.put(net, 9, 7, 42);
            check.due("go(0) by " + name, net.go(0), 1);
            check.due("line by " + name, Check.line(net), "P0=43 P9=7");
        }
        TokenNet all = Check.with("in 0 z;in 1 x;in 2 y;out 3 x;out 4 y;out 5 z");
        all.put(0, 10);
        all.put(1, 20);
        all.put(2, 30);
        check.due("go(0) by all", all.go(0), 1);
        check.due("line by all", Check.line(all), "P3=20 P4=30 P5=10");
    }

    private static void gives(Check check) {
        check.due("four", Check.rule(new TokenNet(), 0, "in 0 x;out 1 1;out 1 1;out 1 1;out 1 1"), -131);
        TokenNet net = Check.with("in 0 x", "in 0 x;out 9 x", "in 0 x;out 1 x;out 9 x+1;out 1 x+2");
        Check.put(net, 0, 4, 5, 6);
        net.go(0);
        check.due("none", Check.line(net), "P0=5,6");
        net.go(1);
        check.due("one", Check.line(net), "P0=6 P9=5");
        net.go(2);
        check.due("three", Check.line(net), "P1=6,8 P9=5,7");
    }

    /** What a part gives that has taken x. */
    private static void gives(Check check, int x, String expression, int want) {
        TokenNet net = Check.with("in 0 x;out 1 " + expression);
        net.put(0, x);
        check.due("go(0) for " + expression, net.go(0), 1);
        check.due(expression + " for " + x, net.token(1, 0), want);
    }

    /** Whether a condition holds of x. */
    private static void holds(Check check, int x, String condition, int want) {
        TokenNet net = Check.with("in 0 x;if " + condition);
        net.put(0, x);
        check.due(condition + " for " + x, net.can(0), want);
    }

    private static void ints(Check check) {
        gives(check, 0, "99*99*99*99*99", 7);
        gives(check, 99, "x*x*x*x*x*x", Math.floorMod(99 * 99 * 99 * 99 * 99 * 99, 100));
        gives(check, 0, "99*99*99*99*22+99*99*99*99", 27);
        gives(check, 0, "0-99*99*99*99*22-99*99*99*99", 73);
        gives(check, 0, "64*64*64*64*64*2", 52);
        gives(check, 0, "0-64*64*64*64*64*2", 52);
        gives(check, 0, "64*64*64*64*64*2-1", 47);
        gives(check, 0, "64*64*64*64*64*4", 0);
        gives(check, 0, "64*64*64*64*64*4+5", 5);
        holds(check, 0, "64*64*64*64*64*2<0", 1);
        holds(check, 0, "64*64*64*64*64*2<1", 1);
        holds(check, 0, "1>64*64*64*64*64*2", 1);
        holds(check, 0, "64*64*64*64*64*2-1>0", 1);
        holds(check, 0, "64*64*64*64*64*2-1>0-1", 1);
        holds(check, 0, "64*64*64*64*64*4=0", 1);
        holds(check, 99, "x*x*x*x*22+x*x*x*x<0", 1);
        holds(check, 99, "x*x*x*x*22>0", 1);
        holds(check, 99, "x*x*x*x+x>x*x*x*x", 1);
    }

    private static void modulo(Check check) {
        gives(check, 0, "x", 0);
        gives(check, 99, "x", 99);
        gives(check, 99, "x+1", 0);
        gives(check, 99, "x+2", 1);
        gives(check, 99, "x+x+2", 0);
        gives(check, 0, "x-1", 99);
        gives(check, 0, "x-99", 1);
        gives(check, 0, "x-99-1", 0);
        gives(check, 0, "x-99-2", 99);
        gives(check, 0, "x-99-99-3", 99);
        gives(check, 10, "x*x", 0);
        gives(check, 10, "0-x*x", 0);
        holds(check, 99, "x+1>99", 1);
        holds(check, 0, "x-1<0", 1);
    }

    private static void ownTokens(Check check) {
        TokenNet net = Check.with("in 0 x;in 0 y", "in 0 x;in 1 y", "in 0 x;in 1 y;in 0 z", "in 0 x;in 0 y;in 0 z");
        net.put(0, 5);
        check.due("one for two of a place", net.can(0), 0);
        net.put(1, 5);
        check.due("one of each of two places, of one number there", net.can(1), 1);
        check.due("the third has no other than the first", net.can(2), 0);
        net.put(0, 5);
        check.due("two for two", net.can(0), 1);
        check.due("bindings(0)", net.bindings(0), 2);
        check.due("the third has another than the first", net.can(2), 1);
        check.due("two for three", net.can(3), 0);
        net.put(0, 5);
        check.due("three for three", net.can(3), 1);
        for (int take = 0; take < 3; take++) {
            check.due("bound(3, " + take + ")", net.bound(3, take), take);
        }
    }

    private static void equalTokens(Check check) {
        TokenNet net = Check.with("in 0 x;in 0 x", "in 0 x;in 1 x", "in 0 x;in 1 y;in 0 x");
        Check.put(net, 0, 1, 2);
        Check.put(net, 1, 3);
        check.due("two unlike ones of a place", net.can(0), 0);
        check.due("unlike ones of two places", net.can(1), 0);
        net.put(1, 2);
        check.due("equal ones of two places", net.can(1), 1);
        check.due("by which numbers", net.bound(1, 0) * 10 + net.bound(1, 1), 11);
        check.due("the first and the third are unlike", net.can(2), 0);
        net.put(0, 1);
        check.due("the first and the third are equal", net.can(2), 1);
        check.due("two equal ones of a place", net.can(0), 1);
        check.due("by which numbers", net.bound(0, 0) * 10 + net.bound(0, 1), 2);
        TokenNet three = Check.with("in 0 x;in 0 x;in 0 x");
        Check.put(three, 0, 4, 4, 5);
        check.due("two of three are equal", three.can(0), 0);
        three.put(0, 4);
        check.due("three are equal", three.can(0), 1);
    }

    private static void conditions(Check check) {
        holds(check, 5, "x<5", 0);
        holds(check, 4, "x<5", 1);
        holds(check, 5, "x>5", 0);
        holds(check, 6, "x>5", 1);
        holds(check, 5, "x=5", 1);
        holds(check, 4, "x=5", 0);
        holds(check, 6, "x=5", 0);
        holds(check, 5, "x=5&x>5", 0);
        holds(check, 5, "x>5&x=5", 0);
        holds(check, 5, "x=5&x>5&x=5", 0);
        holds(check, 5, "x=5;if x>5", 0);
        holds(check, 5, "x>5;if x=5", 0);
        holds(check, 5, "x=5;if x=5&x<6;if 1=1", 1);
        TokenNet net = Check.with("if 1<0;in 0 x", "if 0<1;in 0 x", "in 0 x", "in 0 x;in 1 y;if x<y;in 2 z;if y<z");
        net.put(0, 5);
        check.due("one ahead of all that does not hold", net.can(0), 0);
        check.due("one ahead of all that holds", net.can(1), 1);
        check.due("none", net.can(2), 1);
        net.put(1, 6);
        net.put(2, 6);
        check.due("a condition of later ones does not hold", net.can(3), 0);
        net.put(2, 7);
        check.due("a condition of later ones holds", net.can(3), 1);
    }

    private static void numbers(Check check, TokenNet net, int part, int... want) {
        for (int take = 0; take < want.length; take++) {
            check.due("bound(" + part + ", " + take + ")", net.bound(part, take), want[take]);
        }
    }

    private static void firstBinding(Check check) {
        TokenNet net = Check.with("in 0 x;in 1 y;in 2 z", "in 0 x;in 1 y;if x<y", "in 0 x;in 1 y;in 2 z;if x+y=z",
                "in 0 x;in 0 y;in 0 z", "in 0 x;in 0 y;in 0 z;if y<x;if z<y");
        Check.put(net, 0, 5, 1, 9, 3, 4, 7);
        Check.put(net, 1, 0, 4, 6, 9);
        Check.put(net, 2, 15, 7, 11, 8);
        numbers(check, net, 0, 0, 0, 0);
        // 5 is less than 6 first; a later first take would have an earlier second one.
        numbers(check, net, 1, 0, 2);
        // 5 + 6 = 11: of all with the 5, that with the 6.
        numbers(check, net, 2, 0, 2, 2);
        numbers(check, net, 3, 0, 1, 2);
        // 5, 3 has none less, 5, 4, 1: the second one is the earliest by which there is a third.
        numbers(check, net, 4, 0, 3, 1);
        net.take(0, 1);
        // 5, 9, 3, 4, 7: 5, 4, 3.
        numbers(check, net, 4, 0, 3, 2);
        net.take(0, 0);
        // 9, 3, 4, 7: 9, 4, 3.
        numbers(check, net, 4, 0, 2, 1);
        TokenNet equal = Check.with("in 0 x;in 0 x");
        Check.put(equal, 0, 1, 2, 3, 3, 2, 2);
        numbers(check, equal, 0, 1, 4);
    }

    private static void canGo(Check check) {
        TokenNet net = Check.with("in 0 x;out 1 x");
        check.due("without a binding", net.can(0), 0);
        net.put(0, 5);
        check.due("with all", net.can(0), 1);
        Check.put(net, 1, 1, 2, 3, 4, 5);
        check.due("with room for one more", net.can(0), 1);
        net.put(1, 6);
        check.due("without room", net.can(0), 0);
        net.take(1, 0);
        check.due("with room again", net.can(0), 1);
        net.drop(0);
        check.due("without a rule", net.can(0), -3);
        check.due("all() without a rule", net.all(), 0);
        check.due("reach(60) without a rule", net.reach(60), 1);
    }

    private static void tokensGone(Check check) {
        TokenNet net = Check.with("in 0 x;in 0 y;if x=3;if y=5", "in 0 x", "in 0 x;in 0 y;in 0 z;if x>y&y>z");
        Check.put(net, 0, 1, 5, 2, 3, 4, 6);
        net.go(0);
        check.due("two in the middle", Check.line(net), "P0=1,2,4,6");
        net.go(1);
        check.due("the first", Check.line(net), "P0=2,4,6");
        Check.put(net, 0, 3, 1, 0);
        net.go(2);
        // 2, 4, 6, 3, 1, 0: 2, 1, 0.
        check.due("the first and the last ones", Check.line(net), "P0=4,6,3");
        net.go(1);
        net.go(1);
        net.go(1);
        check.due("the only one", Check.line(net), "");
    }

    private static void emptied(Check check) {
        TokenNet net = Check.with("in 0 x;empty 0", "in 0 x;empty 1;empty 9", "in 1 x;empty 5;out 5 x");
        Check.put(net, 0, 1, 2, 3);
        net.go(0);
        check.due("the place that it takes from", Check.line(net), "");
        Check.put(net, 0, 1, 2);
        Check.put(net, 9, 1, 2, 3, 4, 5, 6);
        net.go(1);
        check.due("one without tokens and a full one", Check.line(net), "P0=2");
        net.put(1, 8);
        net.go(2);
        check.due("one without tokens that it gives to", Check.line(net), "P0=2 P5=8");
        Check.put(net, 1, 9);
        net.go(2);
        check.due("one with a token that it gives to", Check.line(net), "P0=2 P5=9");
    }

    private static void given(Check check) {
        TokenNet net = Check.with("in 0 x;out 1 x;out 0 x+1;out 1 x+2", "out 3 7;in 0 x;out 3 x;empty 3;out 3 9",
                "in 0 x;out 0 x");
        Check.put(net, 0, 10, 20);
        Check.put(net, 1, 5);
        net.go(0);
        check.due("in order", Check.line(net), "P0=20,11 P1=5,10,12");
        Check.put(net, 3, 1, 2);
        net.go(1);
        check.due("behind an empty that is told later", Check.line(net), "P0=11 P1=5,10,12 P3=7,20,9");
        net.put(0, 30);
        net.go(2);
        check.due("into the place that it takes from", Check.line(net), "P0=30,11 P1=5,10,12 P3=7,20,9");
    }

    private static void noRoom(Check check) {
        TokenNet net = Check.with("in 0 x;out 2 x;out 1 x", "in 0 x;out 1 x;out 2 x", "in 0 x;out 2 x;out 2 x;out 2 x");
        net.put(0, 9);
        Check.put(net, 1, 1, 2, 3, 4, 5, 6);
        Check.put(net, 2, 1, 2, 3);
        check.due("the last give has no room", net.go(0), -3);
        check.due("nothing is changed", Check.line(net), "P0=9 P1=1,2,3,4,5,6 P2=1,2,3");
        check.due("the first give has no room", net.go(1), -3);
        check.due("nothing is changed", Check.line(net), "P0=9 P1=1,2,3,4,5,6 P2=1,2,3");
        net.put(2, 4);
        check.due("two of three have room", net.go(2), -3);
        check.due("nothing is changed", Check.line(net), "P0=9 P1=1,2,3,4,5,6 P2=1,2,3,4");
        check.due("told(2)", net.told(2), 0);
        net.take(2, 0);
        check.due("three of three have room", net.go(2), 1);
        check.due("line", Check.line(net), "P1=1,2,3,4,5,6 P2=2,3,4,9,9,9");
    }

    private static void went(Check check) {
        TokenNet net = Check.with("in 0 x;out 0 x", "in 1 x");
        check.due("told(2) at first", net.told(2), 0);
        check.due("go(0) that can't", net.go(0), -3);
        check.due("told(2) behind it", net.told(2), 0);
        net.put(0, 1);
        for (int i = 1; i <= 300; i++) {
            check.due("go(0)", net.go(0), i);
        }
        net.put(1, 1);
        check.due("of all parts", net.go(1), 301);
        check.due("told(2)", net.told(2), 301);
    }

    private static void roomAsGivesCome(Check check) {
        TokenNet net = Check.with("in 1 x;out 1 x", "in 1 x;in 1 y;out 1 x;out 1 y;out 1 x", "in 0 x;empty 1;out 1 x;out 1 x;out 1 x",
                "in 0 x;out 1 x", "in 1 x;out 1 x;empty 2;out 2 x;out 1 x");
        Check.put(net, 0, 7);
        Check.put(net, 1, 1, 2, 3, 4, 5, 6);
        Check.put(net, 2, 1, 2, 3, 4, 5, 6);
        check.due("a full place it takes from, one", net.can(0), 1);
        check.due("a full place it takes two from and gives three to", net.can(1), 0);
        check.due("a full place that it empties", net.can(2), 1);
        check.due("a full place", net.can(3), 0);
        check.due("all()", net.all(), 5);
        net.take(1, 0);
        check.due("with five there it takes two from and gives three to", net.can(1), 1);
        check.due("with five there it takes one from and gives two to", net.can(4), 1);
        check.due("go(4)", net.go(4), 1);
        check.due("line", Check.line(net), "P0=7 P1=3,4,5,6,2,2 P2=2");
        check.due("go(2)", net.go(2), 2);
        check.due("line", Check.line(net), "P1=7,7,7 P2=2");
    }

    private static void can(Check check) {
        TokenNet net = Check.with("in 0 x", "in 9 x", "in 0 x;if x<0");
        check.due("can(0) without tokens", net.can(0), 0);
        Check.put(net, 0, 1, 2, 3, 4, 5, 6);
        check.due("can(0) of a full place", net.can(0), 1);
        check.due("can(1) of an empty place", net.can(1), 0);
        check.due("can(2) by no token", net.can(2), 0);
        Check.rule(net, 9, "in 0 x;if x>5");
        check.due("can(9) by the last token", net.can(9), 1);
        check.due("nothing is changed", Check.line(net), "P0=1,2,3,4,5,6");
        check.due("told(2)", net.told(2), 0);
    }

    private static void bound(Check check) {
        TokenNet net = Check.with("in 0 x;in 9 y;in 0 z;if x>4;if y>1;if z>5", "in 0 x;if x=6");
        Check.put(net, 0, 1, 2, 3, 4, 5, 6);
        Check.put(net, 9, 1, 2);
        numbers(check, net, 0, 4, 1, 5);
        numbers(check, net, 1, 5);
        Check.put(net, 3, 1, 1, 1, 1, 1, 1);
        Check.rule(net, 2, "in 0 x;out 3 x");
        check.due("a binding without room", net.bound(2, 0), 0);
        check.due("nothing is changed", Check.line(net), "P0=1,2,3,4,5,6 P3=1,1,1,1,1,1 P9=1,2");
    }

    private static void boundWithoutBinding(Check check) {
        TokenNet net = Check.with("in 0 x;in 1 y;in 1 z;if x<y", "in 0 x;in 0 y");
        check.due("no tokens", net.bound(0, 0), -5);
        net.put(0, 5);
        Check.put(net, 1, 5, 4);
        for (int take = 0; take < 3; take++) {
            check.due("bound(0, " + take + ")", net.bound(0, take), -5);
        }
        check.due("bound(1, 0)", net.bound(1, 0), -5);
        check.due("bound(1, 1)", net.bound(1, 1), -5);
        net.put(1, 6);
        check.due("with one", net.bound(0, 1), 2);
    }

    private static void boundRefused(Check check) {
        TokenNet net = Check.with("in 0 x");
        net.put(0, 5);
        for (int part : EdgesOfTokens.NO_PLACES) {
            check.due("bound(" + part + ", 0)", net.bound(part, 0), -1);
            check.due("bound(" + part + ", 3)", net.bound(part, 3), -1);
        }
        for (int i : new int[] {0, 2, 3, -1, Integer.MIN_VALUE, Integer.MAX_VALUE}) {
            check.due("bound(1, " + i + ")", net.bound(1, i), -3);
            check.due("bound(9, " + i + ")", net.bound(9, i), -3);
        }
    }

    private static void boundNoTake(Check check) {
        TokenNet net = Check.with("in 0 x", "in 0 x;in 0 y", "in 0 x;in 0 y;in 0 z");
        for (int tokens = 0; tokens <= 3; tokens++) {
            for (int part = 0; part < 3; part++) {
                for (int i : new int[] {-1, part + 1, 3, 4, Integer.MIN_VALUE, Integer.MAX_VALUE}) {
                    check.due("bound(" + part + ", " + i + ") with " + tokens, net.bound(part, i), -1);
                }
                check.due("bound(" + part + ", " + part + ")", net.bound(part, part), tokens > part ? part : -5);
            }
            net.put(0, 7);
        }
    }

    private static void bindings(Check check) {
        TokenNet net = Check.with("in 0 x", "in 0 x;in 0 y", "in 0 x;in 0 y;in 0 z", "in 0 x;in 0 x;in 0 x", "in 0 x;in 1 y;in 2 z",
                "in 0 x;in 0 y;if x<y", "in 0 x;if x<0");
        for (int part = 0; part < 7; part++) {
            check.due("bindings(" + part + ") without tokens", net.bindings(part), 0);
        }
        for (int place = 0; place < 3; place++) {
            Check.put(net, place, 5, 5, 5, 5, 5, 5);
        }
        int[] equal = {6, 30, 120, 120, 216, 0, 0};
        for (int part = 0; part < 7; part++) {
            check.due("bindings(" + part + ") of equal tokens", net.bindings(part), equal[part]);
        }
        net.take(0, 0);
        net.put(0, 6);
        check.due("bindings(3) with one unlike", net.bindings(3), 60);
        check.due("bindings(5) with one unlike", net.bindings(5), 5);
        Check.rule(net, 7, "in 0 x;out 1 x");
        check.due("bindings(7) without room", net.bindings(7), 6);
        check.due("nothing is changed", Check.line(net), "P0=5,5,5,5,5,6 P1=5,5,5,5,5,5 P2=5,5,5,5,5,5");
    }

    private static void go(Check check) {
        TokenNet net = Check.with("in 0 x;out 9 x", "in 9 x", "in 0 x");
        Check.put(net, 0, 5, 6);
        check.due("the first to go", net.go(0), 1);
        check.due("line", Check.line(net), "P0=6 P9=5");
        check.due("go(9)", net.go(9), -3);
        check.due("another part", net.go(1), 2);
        check.due("the last token of all", net.go(2), 3);
        check.due("line", Check.line(net), "");
        check.due("told(2)", net.told(2), 3);
    }

    private static void goCannot(Check check) {
        TokenNet net = Check.with("in 0 x;out 1 x", "in 0 x;if x>5", "in 0 x;in 0 y");
        check.due("no token", net.go(0), -3);
        net.put(0, 5);
        check.due("no binding", net.go(1), -3);
        check.due("too few tokens", net.go(2), -3);
        Check.put(net, 1, 1, 2, 3, 4, 5, 6);
        check.due("no room", net.go(0), -3);
        check.due("nothing is changed", Check.line(net), "P0=5 P1=1,2,3,4,5,6");
        check.due("told(2)", net.told(2), 0);
        net.take(1, 5);
        check.due("with room", net.go(0), 1);
    }

    private static void all(Check check) {
        TokenNet net = new TokenNet();
        check.due("no rules", net.all(), 0);
        for (int part = 0; part <= 9; part++) {
            Check.rule(net, part, "in " + part + " x");
        }
        check.due("no tokens", net.all(), 0);
        int want = 0;
        for (int place = 9; place >= 0; place--) {
            net.put(place, 1);
            want += 1 << place;
            check.due("all() with " + place, net.all(), want);
        }
        check.due("all ten", net.all(), 1023);
        net.drop(9);
        net.drop(0);
        check.due("all() behind two drops", net.all(), 510);
        Check.rule(net, 0, "in 0 x;out 1 1;out 1 1;out 1 1");
        check.due("with room", net.all(), 511);
        Check.put(net, 1, 1, 1, 1);
        check.due("without room", net.all(), 510);
        check.due("told(2)", net.told(2), 0);
    }

    private static void times(Check check) {
        TokenNet net = Check.with("in 0 x;out 0 x+1");
        net.put(0, 0);
        check.due("again(1, 1)", net.again(1, 1), 1);
        check.due("again(1, 2)", net.again(1, 2), 2);
        check.due("again(1, 199)", net.again(1, 199), 199);
        check.due("again(1, 200)", net.again(1, 200), 200);
        check.due("last(1, 1, 0)", net.last(1, 1, 0), 1);
        check.due("last(1, 99, 0)", net.last(1, 99, 0), 99);
        check.due("last(1, 199, 0)", net.last(1, 199, 0), 99);
        check.due("last(1, 200, 0)", net.last(1, 200, 0), 0);
        for (int n : NO_TIMES) {
            check.due("again(1, " + n + ")", net.again(1, n), -2);
            check.due("last(1, " + n + ", 0)", net.last(1, n, 0), -2);
        }
    }

    private static void leastNumber(Check check) {
        TokenNet net = Check.with("in 0 x;out 1 x", "in 0 x;out 2 x", "in 1 x;out 3 x", "in 0 x;out 4 x");
        Check.put(net, 0, 7, 8);
        check.due("last(15, 1, 1): the least of all", net.last(15, 1, 1), 7);
        check.due("last(14, 1, 2): the least of the set", net.last(14, 1, 2), 7);
        check.due("last(14, 1, 1): none that is not of it", net.last(14, 1, 1), -5);
        check.due("last(12, 1, 4): the least that can", net.last(12, 1, 4), 7);
        check.due("last(15, 2, 1): the least once more", net.last(15, 2, 1), 8);
        check.due("last(15, 3, 3): then another", net.last(15, 3, 3), 7);
        check.due("last(15, 4, 3)", net.last(15, 4, 3), 8);
        check.due("last(8, 1, 4): the last of the set alone", net.last(8, 1, 4), 7);
        check.due("again(4, 5): the only one can't", net.again(4, 5), 0);
        Check.rule(net, 9, "in 0 x;out 9 x");
        check.due("last(512, 1, 9): part 9 alone", net.last(512, 1, 9), 7);
        check.due("last(1023, 9, 9): the others came first", net.last(1023, 9, 9), -5);
    }

    private static void howOften(Check check) {
        TokenNet net = Check.with("in 0 x;out 1 x", "in 1 x", "in 5 x");
        check.due("nothing goes", net.again(7, 200), 0);
        Check.put(net, 0, 1, 2, 3, 4, 5, 6);
        check.due("fewer than there is for", net.again(1, 5), 5);
        check.due("as many as there is for", net.again(1, 6), 6);
        check.due("more than there is for", net.again(1, 7), 6);
        check.due("two parts", net.again(3, 200), 12);
        Check.put(net, 1, 9, 9);
        check.due("until there is no room", net.again(1, 200), 4);
        check.due("an empty set", net.again(0, 200), 0);
        check.due("parts without a rule", net.again(1016, 200), 0);
    }

    private static void nothingStays(Check check) {
        TokenNet net = Check.with("in 0 x;out 1 x+1;empty 2", "in 1 x;out 0 x");
        Check.put(net, 0, 1, 2, 3);
        Check.put(net, 2, 4);
        net.go(0);
        net.line();
        check.due("again(3, 200)", net.again(3, 200), 200);
        check.due("last(3, 1, 0)", net.last(3, 1, 0), 3);
        check.due("told(2)", net.told(2), 1);
        check.due("the paper", Check.paper(net), "P0=2,3 P1=2");
        check.due("line", Check.line(net), "P0=2,3 P1=2");
        check.due("again(3, 200) once more", net.again(3, 200), 200);
        check.due("go(0)", net.go(0), 2);
    }

    private static void latestToken(Check check) {
        TokenNet net = Check.with("in 0 x;out 1 x", "in 1 x;out 1 x");
        Check.put(net, 0, 1, 2, 3, 4, 5, 6);
        Check.put(net, 9, 40, 50);
        for (int n = 1; n <= 6; n++) {
            check.due("last(1, " + n + ", 1)", net.last(1, n, 1), n);
        }
        check.due("last(1, 200, 0)", net.last(1, 200, 0), -5);
        check.due("last(1, 5, 0)", net.last(1, 5, 0), 6);
        check.due("last(1, 1, 9): one that nothing changes", net.last(1, 1, 9), 50);
        check.due("last(3, 7, 1): of a full place", net.last(3, 7, 1), 1);
        check.due("last(0, 1, 0): nothing goes", net.last(0, 1, 0), 6);
    }

    private static void again(Check check) {
        TokenNet net = new TokenNet();
        for (int part = 0; part <= 9; part++) {
            Check.rule(net, part, "in " + part + " x");
            net.put(part, 1);
        }
        check.due("again(0, 200)", net.again(0, 200), 0);
        check.due("again(1023, 200)", net.again(1023, 200), 10);
        for (int part = 0; part <= 9; part++) {
            check.due("part " + part + " alone", net.again(1 << part, 200), 1);
            check.due("all but part " + part, net.again(1023 - (1 << part), 200), 9);
        }
    }

    private static void againBadSet(Check check) {
        TokenNet net = Check.with("in 0 x");
        Check.put(net, 0, 1);
        check.due("again(0, 1)", net.again(0, 1), 0);
        check.due("again(1023, 1)", net.again(1023, 1), 1);
        for (int set : NO_SETS) {
            check.due("again(" + set + ", 1)", net.again(set, 1), -2);
            check.due("again(" + set + ", 0)", net.again(set, 0), -2);
        }
    }

    private static void againBadTimes(Check check) {
        TokenNet net = Check.with("in 0 x");
        Check.put(net, 0, 1);
        check.due("again(1, 1)", net.again(1, 1), 1);
        check.due("again(1, 200)", net.again(1, 200), 1);
        for (int n : NO_TIMES) {
            check.due("again(1, " + n + ")", net.again(1, n), -2);
            check.due("again(0, " + n + ")", net.again(0, n), -2);
        }
    }

    private static void lastNone(Check check) {
        TokenNet net = Check.with("in 0 x;out 1 x;empty 9");
        check.due("no tokens at all", net.last(1023, 200, 0), -5);
        net.put(0, 0);
        net.put(9, 5);
        check.due("the one that is taken", net.last(1, 1, 0), -5);
        check.due("the one that is emptied", net.last(1, 1, 9), -5);
        check.due("the one that is given, a 0", net.last(1, 1, 1), 0);
        check.due("none of it goes", net.last(2, 1, 0), 0);
        check.due("none of it goes, an empty place", net.last(2, 1, 1), -5);
    }

    private static void lastBad(Check check) {
        TokenNet net = Check.with("in 0 x");
        Check.put(net, 0, 1, 2);
        check.due("last(0, 1, 0)", net.last(0, 1, 0), 2);
        check.due("last(1023, 200, 0)", net.last(1023, 200, 0), -5);
        for (int set : NO_SETS) {
            check.due("last(" + set + ", 1, 0)", net.last(set, 1, 0), -2);
            check.due("last(" + set + ", 1, 10)", net.last(set, 1, 10), -2);
        }
        for (int n : NO_TIMES) {
            check.due("last(1, " + n + ", 0)", net.last(1, n, 0), -2);
            check.due("last(1, " + n + ", -1)", net.last(1, n, -1), -2);
        }
    }

    private static void lastNoPlace(Check check) {
        TokenNet net = Check.with("in 0 x;out 9 x");
        Check.put(net, 0, 1, 2);
        for (int place : EdgesOfTokens.NO_PLACES) {
            check.due("last(1, 1, " + place + ")", net.last(1, 1, place), -1);
        }
        check.due("last(1, 1, 0)", net.last(1, 1, 0), 2);
        check.due("last(1, 1, 9)", net.last(1, 1, 9), 1);
    }
}
