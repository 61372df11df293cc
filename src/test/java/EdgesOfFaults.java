/** Boundary cases of texts of rules and their faults, and promise 7. */
final class EdgesOfFaults {
    static void tell(Sentences sentences) {
        sentences.of("==== 2");
        sentences.holds("CLAUSES, one or more, parted by ;", EdgesOfFaults::clauses);
        sentences.holds("each a WORD, a blank, and", EdgesOfFaults::blanks);
        sentences.holds("in: a PLACE (a figure), a blank, a NAME", EdgesOfFaults::ins);
        sentences.holds("if: C", EdgesOfFaults::ifs);
        sentences.holds("out: a PLACE, a blank, E", EdgesOfFaults::outs);
        sentences.holds("empty: a PLACE", EdgesOfFaults::empties);
        sentences.holds("C: D or D&C. D: E, < or = or >, E.", EdgesOfFaults::conditions);
        sentences.holds("E: T, E+T or E-T. T: F or T*F.", EdgesOfFaults::signs);
        sentences.holds("F: a number of 1 or 2 figures, a NAME, (E).", EdgesOfFaults::factors);
        sentences.holds("A ( within 5 others is none.", EdgesOfFaults::fiveBrackets);
        sentences.holds("A WORD is as many of a .. z as stand there.", EdgesOfFaults::words);
        sentences.holds("of a WORD that is none of these", EdgesOfFaults::noWord);
        sentences.holds("of a fourth in or out", EdgesOfFaults::fourth);
        sentences.holds("of a NAME that no in ahead of it has told (but in an in), where that begins", EdgesOfFaults::names);
        sentences.holds("the place (from 0) of the first byte with which no RULE goes on", EdgesOfFaults::firstByte);
        sentences.holds("the length, if it ends too early", EdgesOfFaults::tooEarly);
        sentences.holds("or without an in.", EdgesOfFaults::withoutIn);
        sentences.holds("A text with a FAULT does nothing.", EdgesOfFaults::doesNothing);
        sentences.of("## Promise 7:");
        sentences.holds("THE TAPE is the RULE of a PART then: how many CLAUSES", EdgesOfFaults::howMany);
        sentences.holds("-100 less the FAULT.", EdgesOfFaults::lessTheFault);
        sentences.holds("NONE: part (THE TAPE stays).", EdgesOfFaults::ruleNone);
        sentences.of("Said once more.");
        sentences.holds("A fourth in, out is the FAULT where its WORD begins", EdgesOfFaults::fourthBegins);
        sentences.holds("behind a WORD without a blank it is the byte there.", EdgesOfFaults::wordWithoutBlank);
    }

    /** What rule answers to a text: what is wanted stands behind it. */
    private static void texts(Check check, Object... pairs) {
        for (int i = 0; i + 1 < pairs.length; i += 2) {
            String text = (String) pairs[i];
            check.due("rule of \"" + text + "\"", Check.rule(new TokenNet(), 4, text), (Integer) pairs[i + 1]);
        }
    }

    private static void clauses(Check check) {
        texts(check, "", -100, "in 0 x", 1, "in 0 x;in 0 x", 2, ";", -100, ";in 0 x", -100, "in 0 x;", -107,
                "in 0 x;;in 0 x", -107, "in 0 x:in 0 x", -106, "in 0 x in 0 x", -106, "in 0 x;in 0 x;", -114,
                "in 0 x;empty 0;empty 0;empty 0;empty 0;empty 0;empty 0;empty 0;empty 0;empty 0", 10,
                "in 0 x;if 1<1;if 1<1;if 1<1;if 1<1;if 1<1;if 1<1;if 1<1;if 1<1;if 1<1;if 1<1", 11);
    }

    private static void blanks(Check check) {
        texts(check, "in\t0 x", -102, "in0 x", -102, "in!0 x", -102, "in\u001f0 x", -102, "in  0 x", -103,
                "in 0 x;if(x)<1", -109, "in 0 x;if  x<1", -110, "in 0 x;out1 x", -110, "in 0 x;out  1 x", -111,
                "in 0 x;empty1", -112, "in 0 x;empty  1", -113, " in 0 x", -100, "in 0 x; in 0 x", -107);
    }

    private static void ins(Check check) {
        texts(check, "in 0 x", 1, "in 9 z", 1, "in 5 y", 1, "in / x", -103, "in : x", -103, "in x x", -103,
                "in -1 x", -103, "in 10 x", -104, "in 0x", -104, "in 0;x", -104, "in 0  x", -105, "in 0 w", -105,
                "in 0 {", -105, "in 0 X", -105, "in 0 1", -105, "in 0 (x)", -105, "in 0 xy", -106, "in 0 x ", -106,
                "in 0 x+1", -106);
    }

    private static void ifs(Check check) {
        texts(check, "in 0 x;if x<1", 2, "in 0 x;if 0 x<1", -111, "in 0 x;if x", -111, "in 0 x;if <1", -110,
                "in 0 x;if", -109, "in 0 x;if ", -110, "in 0 x;if ;", -110, "in 0 x;if x<1 ", -113, "if 1<1;in 0 x", 2);
    }

    private static void outs(Check check) {
        texts(check, "in 0 x;out 0 0", 2, "in 0 x;out 9 x", 2, "in 0 x;out / x", -111, "in 0 x;out : x", -111,
                "in 0 x;out 10 x", -112, "in 0 x;out 1x", -112, "in 0 x;out 1;", -112, "in 0 x;out 1  x", -113,
                "in 0 x;out 1 ;", -113, "in 0 x;out 1 x ", -114, "in 0 x;out 1 x<1", -114, "in 0 x;out 1 x&x", -114,
                "out 1 1;in 0 x", 2);
    }

    private static void empties(Check check) {
        texts(check, "in 0 x;empty 0", 2, "in 0 x;empty 9", 2, "in 0 x;empty /", -113, "in 0 x;empty :", -113,
                "in 0 x;empty x", -113, "in 0 x;empty 10", -114, "in 0 x;empty 1 ", -114, "in 0 x;empty 1 x", -114,
                "empty 1;in 0 x", 2);
    }

    private static void conditions(Check check) {
        texts(check, "in 0 x;if x<1&x=1&x>1", 2, "in 0 x;if x;1", -111, "in 0 x;if x?1", -111, "in 0 x;if x==1", -112,
                "in 0 x;if x<>1", -112, "in 0 x;if x<1<1", -113, "in 0 x;if x<1=1", -113, "in 0 x;if x<", -112,
                "in 0 x;if x&x<1", -111, "in 0 x;if &x<1", -110, "in 0 x;if x<1&", -114, "in 0 x;if x<1&&x<1", -114,
                "in 0 x;if x<1&x", -115, "in 0 x;if x<1&x;", -115, "in 0 x;if (x<1)", -112, "in 0 x;if x<1|x<1", -113,
                "in 0 x;if (x<1&1<1)", -112, "in 0 x;if x<(1&1)", -114);
    }

    private static void signs(Check check) {
        texts(check, "in 0 x;out 1 x+x-x*x", 2, "in 0 x;out 1 +x", -113, "in 0 x;out 1 -1", -113, "in 0 x;out 1 *x", -113,
                "in 0 x;out 1 x+", -115, "in 0 x;out 1 x-", -115, "in 0 x;out 1 x*", -115, "in 0 x;out 1 x+-x", -115,
                "in 0 x;out 1 x**x", -115, "in 0 x;out 1 x*+x", -115, "in 0 x;out 1 x/x", -114, "in 0 x;out 1 x,x", -114,
                "in 0 x;out 1 x x", -114, "in 0 x;out 1 x+;", -115);
    }

    private static void factors(Check check) {
        texts(check, "in 0 x;out 1 0", 2, "in 0 x;out 1 00", 2, "in 0 x;out 1 99", 2, "in 0 x;out 1 100", -115,
                "in 0 x;out 1 000", -115, "in 0 x;out 1 0000", -115, "in 0 x;out 1 99*100", -118, "in 0 x;out 1 (999)", -116,
                "in 0 x;if 999<1", -112, "in 0 x;if 1<999", -114, "in 0 x;out 1 5x", -114, "in 0 x;out 1 x5", -114,
                "in 0 x;out 1 xx", -114, "in 0 x;out 1 5(1)", -114, "in 0 x;out 1 (1)5", -116, "in 0 x;out 1 (1)(1)", -116,
                "in 0 x;out 1 ()", -114, "in 0 x;out 1 (x", -115, "in 0 x;out 1 (x;", -115, "in 0 x;out 1 x)", -114,
                "in 0 x;out 1 (x))", -116, "in 0 x;out 1 )", -113, "in 0 x;out 1 (x)", 2, "in 0 x;out 1 /", -113,
                "in 0 x;out 1 :", -113, "in 0 x;out 1 w", -113, "in 0 x;out 1 {", -113);
    }

    private static void fiveBrackets(Check check) {
        texts(check, "in 0 x;out 1 (((((x)))))", 2, "in 0 x;out 1 ((((((x))))))", -118,
                "in 0 x;out 1 (((((x)))))+(((((x)))))", 2, "in 0 x;out 1 (((((x)))))+((((((", -130,
                "in 0 x;out 1 (((((x+(", -120, "in 0 x;out 1 ((((x+(x)+(x)))))", 2, "in 0 x;out 1 ((((x+(x)+((", -124,
                "in 0 x;out 1 (x)+(x)+(x)+(x)+(x)+(x)+(x)", 2, "in 0 x;if (((((x)))))<(((((1)))))", 2,
                "in 0 x;if ((((((x", -115, "in 0 x;if x<((((((x", -117, "in 0 x;if 1<1&((((((x", -119,
                "in 0 x;if (((((x)))))<1&(((((x)))))<1", 2);
    }

    private static void words(Check check) {
        texts(check, "inx 0 x", -100, "ina 0 x", -100, "inz 0 x", -100, "in` 0 x", -102, "in{ 0 x", -102, "inX 0 x", -102,
                "in 0 x;ifx<1", -107, "in 0 x;ifa<1", -107, "in 0 x;if`<1", -109, "in 0 x;outx 1 x", -107,
                "in 0 x;emptyempty 1", -107, "in 0 x;inin 0 x", -107, "in 0 x;out_1 x", -110);
    }

    private static void noWord(Check check) {
        texts(check, "", -100, "i 0 x", -100, "inn 0 x", -100, "n 0 x", -100, "im 0 x", -100, "on 0 x", -100, "ni 0 x", -100, "In 0 x", -100,
                "1n 0 x", -100, "in 0 x;of x<1", -107, "in 0 x;ou 1 x", -107, "in 0 x;oat 1 x", -107, "in 0 x;oud 1 x", -107,
                "in 0 x;empt 1", -107, "in 0 x;empti 1", -107, "in 0 x;full 1", -107, "in 0 x;x", -107, "x", -100,
                "abcdefghijklmnopqrstuvwxyz", -100, "a".repeat(80), -100, "in 0 x;" + "i".repeat(73), -107);
    }

    private static void fourth(Check check) {
        texts(check, "in 0 x;in 0 x;in 0 x", 3, "in 0 x;in 0 x;in 0 x;in 0 x", -121, "in 0 x;in 0 x;in 0 x;in", -121,
                "out 0 1;in 0 x;in 0 x;in 0 x;in 0 x", -129, "out 0 1;out 0 1;out 0 1;in 0 x", 4,
                "out 0 1;out 0 1;out 0 1;out 0 1;in 0 x", -124, "out 0 1;out 0 1;out 0 1;out", -124,
                "in 0 x;out 0 1;out 0 1;out 0 1;out 0 1", -131, "in 0 x;in 0 x;in 0 x;out 0 1;out 0 1;out 0 1", 6,
                "in 0 x;in 0 x;in 0 x;if 1<1;in", -128, "in 0 x;if 1<1;if 1<1;if 1<1;if 1<1", 5,
                "in 0 x;empty 1;empty 1;empty 1;empty 1", 5);
    }

    private static void names(Check check) {
        texts(check, "in 0 x;out 1 x", 2, "in 0 x;out 1 y", -113, "in 0 y;out 1 x", -113, "in 0 z;out 1 y", -113,
                "in 0 x;out 1 x*(x+z)", -118, "out 1 x;in 0 x", -106, "if x<1;in 0 x", -103, "if 1<x;in 0 x", -105,
                "in 0 x;if y<1;in 0 y", -110, "in 0 x;if x<y;in 0 y", -112, "in 0 x;in 0 y;if x<y", 3,
                "in 0 x;out 1 z;in 0 z", -113, "in 0 z;in 0 z;out 1 z", 3, "in 0 y", 1, "in 0 x;if 1<1&y<1", -114);
        TokenNet net = new TokenNet();
        check.due("a text that tells y", Check.rule(net, 0, "in 0 y;out 1 y"), 2);
        check.due("a faulty one that tells z", Check.rule(net, 0, "in 0 z;oops"), -107);
        check.due("a later one knows no y", Check.rule(net, 0, "in 0 x;out 1 y"), -113);
        check.due("a later one knows no z", Check.rule(net, 1, "in 0 x;out 1 z"), -113);
    }

    private static void firstByte(Check check) {
        texts(check, "\u0001", -100, "\u007f", -100, "0", -100, "in 0 x\u0001", -106, "in 0 x;out 1 y;oops", -113,
                "in 0 x;out 1 ?;out 1 ?", -113, "in 9 x;out 9 9;if 9<9;?", -122,
                "in 0 x;out 1 " + "x+".repeat(33) + "?", -179, "in 0 x;out 1 " + "x+".repeat(32) + "x??", -178);
    }

    private static void tooEarly(Check check) {
        texts(check, "", -100, "in", -102, "in ", -103, "in 0", -104, "in 0 ", -105, "in 0 x;", -107, "in 0 x;if", -109,
                "in 0 x;if ", -110, "in 0 x;if x", -111, "in 0 x;if x<", -112, "in 0 x;if x<1&", -114,
                "in 0 x;if x<1&x=", -116, "in 0 x;out", -110, "in 0 x;out ", -111, "in 0 x;out 1", -112,
                "in 0 x;out 1 ", -113, "in 0 x;out 1 x+", -115, "in 0 x;out 1 (", -114, "in 0 x;out 1 (((((x))))", -123,
                "in 0 x;empty", -112, "in 0 x;empty ", -113, "in 0 x;out 1 " + "x+".repeat(33) + "(", -180,
                "in 0 x;out 1 " + "x+".repeat(33), -179);
    }

    private static void withoutIn(Check check) {
        texts(check, "out 1 5", -107, "empty 3", -107, "if 1<2", -106, "if 1<2;empty 0;out 9 99", -123, "out 1 5;", -108,
                "out 1 1;if 1<1;out 1 " + "1+".repeat(29) + "1", -180, "out 1 5;in", -110, "out 1 5;in 0 x", 2);
    }

    private static void doesNothing(Check check) {
        String[] faulty = {"", "in", "in 1 y;", "out 1 5", "in 1 y;in 1 y;in 1 y;in 1 y", "in 1 y;out 2 z",
            "in 1 y;out 2 y;empty 3;if y<1&", "oops"};
        for (String text : faulty) {
            TokenNet net = Check.with("in 0 x;if x>1;out 3 x;empty 4");
            Check.put(net, 0, 5, 6);
            net.line();
            check.due("\"" + text + "\" is none", Check.rule(net, 0, text) <= -100 ? 1 : 0, 1);
            check.due("\"" + text + "\" for a part without", Check.rule(net, 1, text) <= -100 ? 1 : 0, 1);
            check.due("the paper", Check.paper(net), "P0=5,6");
            check.due("rule 0", Check.spelled(net, 0), "in 0 x;if x>1;out 3 x;empty 4");
            check.due("rule 1", net.spell(1), -3);
            check.due("has(0, 1)", net.has(0, 1), 1);
            check.due("line", Check.line(net), "P0=5,6");
            check.due("go(0)", net.go(0), 1);
            check.due("a rule behind it", Check.rule(net, 1, "in 0 x;in 0 y;in 0 z;out 0 x;out 0 y;out 0 z"), 6);
        }
    }

    private static void howMany(Check check) {
        TokenNet net = new TokenNet();
        check.due("one", Check.rule(net, 0, "in 0 x"), 1);
        check.due("two for another part", Check.rule(net, 9, "in 9 z;empty 1"), 2);
        check.due("eleven", Check.rule(net, 5, "if 1<1;if 1<1;if 1<1;if 1<1;if 1<1;if 1<1;if 1<1;if 1<1;if 1<1;if 1<1;in 0 x"),
                11);
        check.due("a C is one clause", Check.rule(net, 6, "in 0 x;if x<1&x<2&x<3"), 2);
        check.due("rule 0", Check.spelled(net, 0), "in 0 x");
        check.due("rule 9", Check.spelled(net, 9), "in 9 z;empty 1");
        check.due("another one for part 0", Check.rule(net, 0, "in 1 y;out 2 y;out 3 y"), 3);
        check.due("rule 0 then", Check.spelled(net, 0), "in 1 y;out 2 y;out 3 y");
        check.due("parts with a rule", net.told(1), 4);
    }

    private static void lessTheFault(Check check) {
        texts(check, "", -100, "in", -102, "in 0 x;in 0 y?", -113, "in 0 x;out 1 " + "x+".repeat(33) + "?", -179,
                "in 0 x;out 1 " + "x+".repeat(33) + "(", -180);
        TokenNet net = new TokenNet();
        check.due("a faulty text", Check.rule(net, 0, "in 0 w"), -105);
        check.due("the next one begins anew", Check.rule(net, 0, "in w"), -103);
        check.due("no text", net.rule(0), -100);
    }

    private static void ruleNone(Check check) {
        TokenNet net = new TokenNet();
        Check.feed(net, "in 7 z");
        for (int part : EdgesOfTokens.NO_PLACES) {
            check.due("rule(" + part + ")", net.rule(part), -1);
        }
        check.due("bytes of the tape", net.told(3), 6);
        check.due("parts with a rule", net.told(1), 0);
        check.due("rule(9)", net.rule(9), 1);
        check.due("rule 9", Check.spelled(net, 9), "in 7 z");
        check.due("bytes of the tape", net.told(3), 0);
    }

    private static void fourthBegins(Check check) {
        texts(check, "in 0 x;in 0 x;in 0 x;in 0 x", -121, "in 0 x;in 0 x;in 0 x;in", -121, "in 0 x;in 0 x;in 0 x;in?", -121,
                "in 0 x;in 0 x;in 0 x;in ", -121, "in 0 x;in 0 x;in 0 x;in x", -121, "in 0 x;in 0 x;in 0 x;inn", -121,
                "out 0 1;out 0 1;out 0 1;out 0 1", -124, "out 0 1;out 0 1;out 0 1;out?", -124,
                "out 0 1;out 0 1;out 0 1;out", -124, "out 0 1;out 0 1;out 0 1;out 0 w", -124);
    }

    private static void wordWithoutBlank(Check check) {
        texts(check, "in?", -102, "in;", -102, "in0 x", -102, "in(", -102, "inX", -102, "in 0 x;if?", -109, "in 0 x;if(x)<1", -109,
                "in 0 x;if;", -109, "in 0 x;out?", -110, "in 0 x;out1 x", -110, "in 0 x;empty?", -112, "in 0 x;empty1", -112,
                "in 0 x;empty;", -112);
    }
}
