/** Boundary cases of the tape and the paper, and promises 5, 6, 8 to 12. */
final class EdgesOfTexts {
    /** 80 bytes. */
    static final String LONGEST = "in 0 x;out 1 " + "x+".repeat(33) + "x";

    static void tell(Sentences sentences) {
        sentences.of("==== 2");
        sentences.holds("THE TAPE holds 0 .. 80 bytes.", EdgesOfTexts::tape);
        sentences.holds("its CLAUSES in the order in which they were told (C as one CLAUSE if)", EdgesOfTexts::clauses);
        sentences.holds("with brackets only where, without them, it would be read otherwise", EdgesOfTexts::brackets);
        sentences.holds("(so x+(y+z) keeps its own, (x+y)+z does not)", EdgesOfTexts::leftAndRight);
        sentences.holds("numbers as short as can be", EdgesOfTexts::numbers);
        sentences.holds("LINE of the MARKING: for each PLACE with TOKENS, by numbers", EdgesOfTexts::lineOfMarking);
        sentences.holds("its TOKENS with , between; parted by blanks.", EdgesOfTexts::commasAndBlanks);
        sentences.holds("THE PAPER holds the latest one (nothing at first).", EdgesOfTexts::latest);
        sentences.of("## Promise 5:");
        sentences.holds("A byte (1 .. 127) comes behind THE TAPE's: how many it has.", EdgesOfTexts::feed);
        sentences.holds("BAD", EdgesOfTexts::feedBad);
        sentences.holds("FULL", EdgesOfTexts::feedFull);
        sentences.of("## Promise 6:");
        sentences.holds("THE TAPE is empty then: how many bytes it had.", EdgesOfTexts::clear);
        sentences.of("## Promise 8:");
        sentences.holds("A PART has no RULE: 1.", EdgesOfTexts::drop);
        sentences.holds("NONE", EdgesOfTexts::dropNone);
        sentences.holds("STATE: it has none.", EdgesOfTexts::dropState);
        sentences.of("## Promise 9:");
        sentences.holds("how many 0 TAKES, 1 CONDITIONS (D), 2 GIVES", EdgesOfTexts::has);
        sentences.holds("3 PLACES that it EMPTIES (unlike ones)", EdgesOfTexts::hasEmpties);
        sentences.holds("NONE: part, what", EdgesOfTexts::hasNone);
        sentences.holds("STATE: no RULE.", EdgesOfTexts::hasState);
        sentences.of("## Promise 10:");
        sentences.holds("THE PAPER becomes its RULE SPELLED: how many bytes.", EdgesOfTexts::spell);
        sentences.holds("NONE", EdgesOfTexts::spellNone);
        sentences.holds("STATE: no RULE.", EdgesOfTexts::spellState);
        sentences.of("## Promise 11:");
        sentences.holds("THE PAPER becomes the LINE of the MARKING: how many bytes.", EdgesOfTexts::line);
        sentences.of("## Promise 12:");
        sentences.holds("Byte i of THE PAPER.", EdgesOfTexts::paper);
        sentences.holds("NONE", EdgesOfTexts::paperNone);
        sentences.of("Said once more.");
        sentences.holds("EMPTY may name a PLACE twice.", EdgesOfTexts::emptyTwice);
        sentences.holds("x-(y-z), x+(y-z), x*(y*z) keep their brackets, (x+y)+z, (x*y)*z have none.",
                EdgesOfTexts::saidOfBrackets);
    }

    private static void spelled(Check check, String text, String want) {
        TokenNet net = new TokenNet();
        Check.rule(net, 2, text);
        check.due("spelled of \"" + text + "\"", Check.spelled(net, 2), want);
    }

    /** An expression of a part that has taken x, y and z. */
    private static void expression(Check check, String text, String want) {
        String ahead = "in 0 x;in 0 y;in 0 z;out 1 ";
        spelled(check, ahead + text, ahead + want);
    }

    private static void tape(Check check) {
        TokenNet net = new TokenNet();
        check.due("bytes at first", net.told(3), 0);
        Check.feed(net, LONGEST);
        check.due("bytes of the longest", net.told(3), 80);
        check.due("one more", net.feed('x'), -4);
        check.due("bytes then", net.told(3), 80);
        check.due("rule(0): all 80 are read", net.rule(0), 2);
        check.due("its spelling", Check.spelled(net, 0), LONGEST);
        check.due("bytes behind it", net.told(3), 0);
        check.due("rule(1) of none", net.rule(1), -100);
    }

    private static void clauses(Check check) {
        spelled(check, "in 0 x", "in 0 x");
        spelled(check, "empty 9;out 8 1;if 1<2;in 0 z;empty 0;out 0 z;in 0 z;in 9 x;out 8 1",
                "empty 9;out 8 1;if 1<2;in 0 z;empty 0;out 0 z;in 0 z;in 9 x;out 8 1");
        spelled(check, "in 0 x;if x<1&x<2&x<3;if x<4", "in 0 x;if x<1&x<2&x<3;if x<4");
        spelled(check, "if 1<1;if 1<1;if 1<1;if 1<1;if 1<1;if 1<1;if 1<1;if 1<1;if 1<1;if 1<1;in 0 x",
                "if 1<1;if 1<1;if 1<1;if 1<1;if 1<1;if 1<1;if 1<1;if 1<1;if 1<1;if 1<1;in 0 x");
    }

    private static void brackets(Check check) {
        expression(check, "(((((x)))))", "x");
        expression(check, "(5)", "5");
        expression(check, "((x)+(y))", "x+y");
        expression(check, "(x+y)*z", "(x+y)*z");
        expression(check, "(x-y)*z", "(x-y)*z");
        expression(check, "x*(y+z)", "x*(y+z)");
        expression(check, "x*(y-z)", "x*(y-z)");
        expression(check, "((x+y)*(y-z))", "(x+y)*(y-z)");
        expression(check, "(x*y)+z", "x*y+z");
        expression(check, "x+(y*z)", "x+y*z");
        expression(check, "x-(y*z)", "x-y*z");
        expression(check, "x-(y+z)", "x-(y+z)");
        expression(check, "(((((x+1)*2)+3)*4)+5)*6", "(((x+1)*2+3)*4+5)*6");
        expression(check, "1-(2-(3-(4-(5-(6-7)))))", "1-(2-(3-(4-(5-(6-7)))))");
        spelled(check, "in 0 x;if ((x+1))<(2*(3))&(x)=(x-1)-(1)", "in 0 x;if x+1<2*3&x=x-1-1");
        spelled(check, "in 0 x;if x>(x-(x-x))", "in 0 x;if x>x-(x-x)");
    }

    private static void leftAndRight(Check check) {
        expression(check, "x+(y+z)", "x+(y+z)");
        expression(check, "(x+y)+z", "x+y+z");
        expression(check, "x+y+z", "x+y+z");
        expression(check, "(x+(y+z))+(x+y)", "x+(y+z)+(x+y)");
    }

    private static void numbers(Check check) {
        expression(check, "00", "0");
        expression(check, "0", "0");
        expression(check, "07", "7");
        expression(check, "09+9", "9+9");
        expression(check, "10", "10");
        expression(check, "99*90+01", "99*90+1");
        spelled(check, "in 0 x;if 00<x&05=05", "in 0 x;if 0<x&5=5");
    }

    private static void lineOfMarking(Check check) {
        TokenNet net = new TokenNet();
        check.due("no place has any", net.line(), 0);
        net.put(9, 0);
        check.due("the last place alone", Check.line(net), "P9=0");
        net.put(0, 99);
        check.due("the first and the last", Check.line(net), "P0=99 P9=0");
        net.put(5, 10);
        check.due("by numbers", Check.line(net), "P0=99 P5=10 P9=0");
        net.take(0, 0);
        check.due("one that has none any more", Check.line(net), "P5=10 P9=0");
        for (int place = 0; place <= 9; place++) {
            Check.put(net, place, 90, 91, 92, 93, 94, 95, 96);
        }
        StringBuilder want = new StringBuilder();
        for (int place = 0; place <= 9; place++) {
            want.append(place == 0 ? "P" : " P").append(place).append('=');
            want.append(place == 5 ? "10,90,91,92,93,94" : place == 9 ? "0,90,91,92,93,94" : "90,91,92,93,94,95");
        }
        check.due("all places are full", Check.line(net), want.toString());
    }

    private static void commasAndBlanks(Check check) {
        TokenNet net = new TokenNet();
        net.put(3, 9);
        check.due("one token", Check.line(net), "P3=9");
        net.put(3, 10);
        check.due("two tokens", Check.line(net), "P3=9,10");
        Check.put(net, 3, 0, 1, 99, 11);
        check.due("six tokens", Check.line(net), "P3=9,10,0,1,99,11");
        net.put(4, 0);
        check.due("two places", Check.line(net), "P3=9,10,0,1,99,11 P4=0");
    }

    private static void latest(Check check) {
        TokenNet net = Check.with("in 0 x;out 1 x", "in 2 y");
        check.due("bytes at first", net.told(4), 0);
        check.due("paper(0) at first", net.paper(0), -1);
        check.due("rule 0", Check.spelled(net, 0), "in 0 x;out 1 x");
        check.due("rule 1, a shorter one", Check.spelled(net, 1), "in 2 y");
        net.put(7, 7);
        check.due("line", Check.line(net), "P7=7");
        net.take(7, 0);
        check.due("the paper stays behind a take", Check.paper(net), "P7=7");
        net.spell(5);
        check.due("the paper stays behind a refused call", Check.paper(net), "P7=7");
        net.line();
        check.due("bytes of an empty line", net.told(4), 0);
        check.due("paper(0) of an empty line", net.paper(0), -1);
    }

    private static void feed(Check check) {
        TokenNet net = new TokenNet();
        check.due("the least byte", net.feed(1), 1);
        check.due("the greatest byte", net.feed(127), 2);
        for (int i = 3; i <= 80; i++) {
            check.due("byte " + i, net.feed(i), i);
        }
        check.due("clear()", net.clear(), 80);
        Check.feed(net, "in 4 ");
        check.due("one behind them", net.feed('z'), 6);
        net.rule(0);
        check.due("in the order in which they came", Check.spelled(net, 0), "in 4 z");
    }

    private static void feedBad(Check check) {
        TokenNet net = new TokenNet();
        int[] bad = {0, 128, -1, -127, 129, 255, 256 + 'i', Integer.MIN_VALUE, Integer.MAX_VALUE};
        for (int letter : bad) {
            check.due("feed(" + letter + ")", net.feed(letter), -2);
        }
        check.due("bytes", net.told(3), 0);
        for (int i = 0; i < 80; i++) {
            net.feed('a');
        }
        for (int letter : bad) {
            check.due("feed(" + letter + ") onto a full tape", net.feed(letter), -2);
        }
        check.due("bytes", net.told(3), 80);
    }

    private static void feedFull(Check check) {
        TokenNet net = new TokenNet();
        for (int i = 1; i <= 80; i++) {
            check.due("byte " + i, net.feed('a'), i);
        }
        check.due("byte 81", net.feed('a'), -4);
        check.due("byte 81 once more", net.feed(1), -4);
        check.due("bytes", net.told(3), 80);
        net.clear();
        check.due("with room again", net.feed(127), 1);
    }

    private static void clear(Check check) {
        TokenNet net = new TokenNet();
        check.due("nothing", net.clear(), 0);
        net.feed('i');
        check.due("one", net.clear(), 1);
        check.due("nothing again", net.clear(), 0);
        Check.feed(net, LONGEST);
        check.due("as many as there can be", net.clear(), 80);
        check.due("bytes", net.told(3), 0);
        check.due("a rule of what comes then", Check.rule(net, 0, "in 0 x"), 1);
    }

    private static void drop(Check check) {
        TokenNet net = Check.with("in 0 x", "in 1 x", "in 2 x", "in 3 x", "in 4 x", "in 5 x", "in 6 x", "in 7 x", "in 8 x",
                "in 9 x");
        for (int part : new int[] {9, 0, 5}) {
            check.due("drop(" + part + ")", net.drop(part), 1);
            check.due("spell(" + part + ")", net.spell(part), -3);
        }
        check.due("parts with a rule", net.told(1), 7);
        check.due("rule 1", Check.spelled(net, 1), "in 1 x");
        check.due("rule 8", Check.spelled(net, 8), "in 8 x");
    }

    private static void dropNone(Check check) {
        TokenNet net = Check.with("in 0 x");
        for (int part : EdgesOfTokens.NO_PLACES) {
            check.due("drop(" + part + ")", net.drop(part), -1);
        }
        check.due("parts with a rule", net.told(1), 1);
    }

    private static void dropState(Check check) {
        TokenNet net = Check.with("in 0 x");
        check.due("drop(1)", net.drop(1), -3);
        check.due("drop(9)", net.drop(9), -3);
        net.drop(0);
        check.due("drop(0) once more", net.drop(0), -3);
        check.due("parts with a rule", net.told(1), 0);
    }

    private static void hasOf(Check check, String text, int... want) {
        TokenNet net = Check.with(text);
        for (int what = 0; what < 4; what++) {
            check.due("has(0, " + what + ") of \"" + text + "\"", net.has(0, what), want[what]);
        }
    }

    private static void has(Check check) {
        hasOf(check, "in 0 x", 1, 0, 0, 0);
        hasOf(check, "in 0 x;in 0 x;in 0 x;out 0 1;out 0 1;out 0 1", 3, 0, 3, 0);
        hasOf(check, "in 0 x;if x<1", 1, 1, 0, 0);
        hasOf(check, "in 0 x;if x<1&x<2&x<3;if x=1;if x>1&1=1;out 0 x", 1, 6, 1, 0);
        hasOf(check, "in 0 x;if 1<1&1<1&1<1&1<1&1<1&1<1&1<1&1<1&1<1&1<1&1<1&1<1&1<1&1<1&1<1&1<1&1<1", 1, 17, 0, 0);
    }

    private static void hasEmpties(Check check) {
        hasOf(check, "in 0 x;empty 0", 1, 0, 0, 1);
        hasOf(check, "in 0 x;empty 9;empty 9", 1, 0, 0, 1);
        hasOf(check, "in 0 x;empty 3;empty 4;empty 3;empty 4;empty 3", 1, 0, 0, 2);
        hasOf(check, "empty 0;empty 1;empty 2;empty 3;empty 4;empty 5;empty 6;empty 7;empty 9;in 0 x", 1, 0, 0, 9);
    }

    private static void hasNone(Check check) {
        TokenNet net = Check.with("in 0 x");
        for (int part : EdgesOfTokens.NO_PLACES) {
            check.due("has(" + part + ", 0)", net.has(part, 0), -1);
            check.due("has(" + part + ", 4)", net.has(part, 4), -1);
        }
        for (int what : new int[] {-1, 4, 5, Integer.MIN_VALUE, Integer.MAX_VALUE}) {
            check.due("has(0, " + what + ")", net.has(0, what), -1);
            check.due("has(1, " + what + ") without a rule", net.has(1, what), -1);
        }
    }

    private static void hasState(Check check) {
        TokenNet net = Check.with("in 0 x");
        for (int what = 0; what < 4; what++) {
            check.due("has(1, " + what + ")", net.has(1, what), -3);
            check.due("has(9, " + what + ")", net.has(9, what), -3);
        }
        net.drop(0);
        check.due("has(0, 0) behind drop", net.has(0, 0), -3);
    }

    private static void spell(Check check) {
        TokenNet net = Check.with("in 0 x", LONGEST, "in 0 x;out 1 (((((00)))))");
        check.due("spell(0)", net.spell(0), 6);
        check.due("the paper", Check.paper(net), "in 0 x");
        check.due("spell(1)", net.spell(1), 80);
        check.due("the paper", Check.paper(net), LONGEST);
        check.due("spell(2)", net.spell(2), 14);
        check.due("the paper", Check.paper(net), "in 0 x;out 1 0");
    }

    private static void spellNone(Check check) {
        TokenNet net = Check.with("in 0 x");
        net.spell(0);
        for (int part : EdgesOfTokens.NO_PLACES) {
            check.due("spell(" + part + ")", net.spell(part), -1);
        }
        check.due("the paper stays", Check.paper(net), "in 0 x");
    }

    private static void spellState(Check check) {
        TokenNet net = Check.with("in 0 x");
        net.spell(0);
        check.due("spell(1)", net.spell(1), -3);
        check.due("spell(9)", net.spell(9), -3);
        net.drop(0);
        check.due("spell(0) behind drop", net.spell(0), -3);
        check.due("the paper stays", Check.paper(net), "in 0 x");
    }

    private static void line(Check check) {
        TokenNet net = new TokenNet();
        check.due("line() of nothing", net.line(), 0);
        net.put(0, 9);
        check.due("line() of one figure", net.line(), 4);
        net.put(0, 10);
        check.due("line() of two more", net.line(), 7);
        for (int place = 0; place <= 9; place++) {
            Check.put(net, place, 99, 99, 99, 99, 99, 99);
        }
        net.take(0, 0);
        net.put(0, 10);
        check.due("line() of the longest", net.line(), 209);
        check.due("told(4)", net.told(4), 209);
        check.due("its last byte", net.paper(208), '9');
        check.due("the byte behind it", net.paper(209), -1);
        for (int place = 0; place <= 9; place++) {
            check.due("where place " + place + " begins", net.paper(21 * place), 'P');
        }
    }

    private static void paper(Check check) {
        TokenNet net = new TokenNet();
        Check.put(net, 9, 10, 5);
        check.due("line()", net.line(), 7);
        String want = "P9=10,5";
        for (int i = 0; i < 7; i++) {
            check.due("paper(" + i + ")", net.paper(i), want.charAt(i));
        }
    }

    private static void paperNone(Check check) {
        TokenNet net = new TokenNet();
        int[] never = {-1, -2, 300, Integer.MIN_VALUE, Integer.MAX_VALUE};
        for (int i : never) {
            check.due("paper(" + i + ") of nothing", net.paper(i), -1);
        }
        check.due("paper(0) of nothing", net.paper(0), -1);
        Check.put(net, 9, 10, 5);
        net.line();
        check.due("paper(7), one behind", net.paper(7), -1);
        net.take(9, 0);
        net.line();
        check.due("paper(3), the last", net.paper(3), '5');
        check.due("paper(4), of the one before", net.paper(4), -1);
        for (int i : never) {
            check.due("paper(" + i + ")", net.paper(i), -1);
        }
    }

    private static void emptyTwice(Check check) {
        TokenNet net = Check.with("in 0 x;empty 1;empty 1;out 1 x;empty 1");
        check.due("its spelling", Check.spelled(net, 0), "in 0 x;empty 1;empty 1;out 1 x;empty 1");
        check.due("has(0, 3)", net.has(0, 3), 1);
        Check.put(net, 0, 5);
        Check.put(net, 1, 1, 2, 3, 4, 5, 6);
        check.due("go(0)", net.go(0), 1);
        check.due("line", Check.line(net), "P1=5");
    }

    private static void saidOfBrackets(Check check) {
        expression(check, "x-(y-z)", "x-(y-z)");
        expression(check, "x+(y-z)", "x+(y-z)");
        expression(check, "x*(y*z)", "x*(y*z)");
        expression(check, "(x+y)+z", "x+y+z");
        expression(check, "(x*y)*z", "x*y*z");
        expression(check, "(x-y)-z", "x-y-z");
        expression(check, "(x-y)+z", "x-y+z");
        expression(check, "(x+y)-z", "x+y-z");
    }
}
