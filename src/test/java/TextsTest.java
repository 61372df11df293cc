/** Promises 5 to 12: feed, clear, rule, drop, has, spell, line, paper. */
final class TextsTest {
    private static final Check check = new Check();

    public static void main(String[] args) {
        feed();
        clear();
        rule();
        faultsOfWords();
        faultsOfNames();
        faultsOfBytes();
        faultsAtTheEnd();
        ruleAndTheTape();
        drop();
        has();
        spell();
        line();
        paper();
        check.end();
    }

    private static void feed() {
        check.about("promise 5, feed");
        TokenNet net = new TokenNet();
        check.due("feed(0)", net.feed(0), -2);
        check.due("feed(128)", net.feed(128), -2);
        check.due("feed(-1)", net.feed(-1), -2);
        check.due("feed(1)", net.feed(1), 1);
        check.due("feed(127)", net.feed(127), 2);
        for (int i = 3; i <= 80; i++) {
            check.due("feed(49)", net.feed(49), i);
        }
        check.due("an 81st feed", net.feed(49), -4);
        check.due("an 81st feed that is bad", net.feed(0), -2);
        check.due("told(3)", net.told(3), 80);
    }

    private static void clear() {
        check.about("promise 6, clear");
        TokenNet net = new TokenNet();
        check.due("clear()", net.clear(), 0);
        Check.feed(net, "in 0 x;");
        check.due("clear()", net.clear(), 7);
        check.due("told(3)", net.told(3), 0);
        check.due("rule(0)", Check.rule(net, 0, "in 0 x"), 1);
    }

    private static void text(String text, int want) {
        check.due("rule of \"" + text + "\"", Check.rule(new TokenNet(), 4, text), want);
    }

    private static void rule() {
        check.about("promise 7, rule");
        text("in 0 x", 1);
        text("in 9 z", 1);
        text("in 0 x;in 1 y;if x<y;out 2 x+y*2", 4);
        text("in 0 x;in 0 x;in 0 x;out 1 x;out 1 x;out 1 x;empty 1;empty 1;empty 0", 9);
        text("out 0 5;empty 1;if 1<2;in 0 x", 4);
        text("in 0 x;if x=1&x>0&x<2", 2);
        text("in 0 x;if x=1;if x>0;if x<2", 4);
        text("in 0 x;if (x+1)*2<((((3))))-x", 2);
        text("in 0 x;if (((((x)))))=(((((1)))))", 2);
        text("in 0 x;out 1 (((((x)))))", 2);
        text("in 0 x;out 1 00+07+99*x", 2);
        text("in 0 x;out 0 x;in 1 y;out 2 y;in 2 z;out 3 z", 6);
        text("in 0 x;if 1<1;if 1<1;if 1<1;if 1<1;if 1<1;if 1<1;if 1<1;if 1<1;if 1<1;if 1<1", 11);
        text("in 0 x;empty 0;empty 1;empty 2;empty 3;empty 4;empty 5;empty 6;empty 7;empty 8", 10);
        text("in 0 x;out 1 (x+1)*(x+2)*(x+3)*(x+4)*(x+5)*(x+6)*(x+7)*(x+8)*(x+9)*(x+10)*x+1", 2);
        text("in 0 x;out 1 x+x+x+x+x+x+x+x+x+x+x+x+x+x+x+x+x+x+x+x+x+x+x+x+x+x+x+x+x+x+x+x+x+x", 2);
        check.due("rule(-1)", new TokenNet().rule(-1), -1);
        check.due("rule(10)", new TokenNet().rule(10), -1);
        check.due("rule(9)", Check.rule(new TokenNet(), 9, "in 0 x"), 1);
    }

    private static void faultsOfWords() {
        check.about("promise 7, faults of words");
        text("i", -100);
        text("inx 0 x", -100);
        text("emp", -100);
        text("emptyy 1", -100);
        text("ina 0 x", -100);
        text("inz 0 x", -100);
        text("in` 0 x", -102);
        text("in{ 0 x", -102);
        text("an 0 x", -100);
        text("is 0 x", -100);
        text("in 0 x;af x<1", -107);
        text("in 0 x;aut 1 1", -107);
        text("in 0 x;ampty 1", -107);
        text("In 0 x", -100);
        text(" in 0 x", -100);
        text(";", -100);
        text("1", -100);
        text("in 0 x;foo 1", -107);
        text("in 0 x;i", -107);
        text("in 0 x; in 1 y", -107);
        text("in 0 x;;", -107);
        text("in 0 x;in 1 y;in 2 z;in 3 x", -121);
        text("in 0 x;in 1 y;in 2 z;in", -121);
        text("in 0 x;in 1 y;in 2 z;in;", -121);
        text("in 0 x;in 1 y;in 2 z;inn", -121);
        text("out 0 1;out 0 1;out 0 1;out 0 1", -124);
        text("out 0 1;out 0 1;out 0 1;out", -124);
        text("in 0 x;in 1 y;in 2 z;out 0 x;out 0 1;out 0 1;if x<1;out 0 w", -152);
    }

    private static void faultsOfNames() {
        check.about("promise 7, faults of names");
        text("in 0 x;out 1 y", -113);
        text("in 0 x;out 1 x+y", -115);
        text("out 1 x;in 0 x", -106);
        text("if x<1;in 0 x", -103);
        text("in 0 x;if x<z;in 1 z", -112);
        text("in 0 w", -105);
        text("in 0 X", -105);
        text("in 0 5", -105);
        text("in 0 x;if (y", -111);
        text("in 0 x;out 1 w", -113);
    }

    private static void faultsOfBytes() {
        check.about("promise 7, faults of bytes");
        text("in", -102);
        text("in0 x", -102);
        text("in;", -102);
        text("in  0 x", -103);
        text("in a x", -103);
        text("in 10 x", -104);
        text("in 0x", -104);
        text("in 0  x", -105);
        text("in 0 xy", -106);
        text("in 0 x ", -106);
        text("in 0 x in 1 y", -106);
        text("in 0 x;empty 1 ", -114);
        text("in 0 x;empty 12", -114);
        text("in 0 x;empty x", -113);
        text("in 0 x;out 1 -x", -113);
        text("in 0 x;out 1 x-", -115);
        text("in 0 x;out 1 x--x", -115);
        text("in 0 x;out 1 x+*x", -115);
        text("in 0 x;out 1 100", -115);
        text("in 0 x;out 1 5x", -114);
        text("in 0 x;out 1 xx", -114);
        text("in 0 x;out 1 x(", -114);
        text("in 0 x;out 1 x)", -114);
        text("in 0 x;out 1 ()", -114);
        text("in 0 x;out 1 (x;", -115);
        text("in 0 x;out 1 (x)2", -116);
        text("in 0 x;out 1 x<1", -114);
        text("in 0 x;out 1 ((((((x))))))", -118);
        text("in 0 x;out 1 (((((x)))))+((((((1", -130);
        text("in 0 x;out 1 ((x+))", -117);
        text("in 0 x;out 1 ((x)", -117);
        text("in 0 x;out 1 ((x)+y)", -118);
        text("in 0 x;if ((((((x))))))<1", -115);
        text("in 0 x;if x<((((((1))))))", -117);
        text("in 0 x;if x", -111);
        text("in 0 x;if x;", -111);
        text("in 0 x;if x&x<1", -111);
        text("in 0 x;if x<1<2", -113);
        text("in 0 x;if x<=1", -112);
        text("in 0 x;if (x<1)", -112);
        text("in 0 x;if x<1&", -114);
        text("in 0 x;if x<1&&x<2", -114);
        text("in 0 x;if x<1)", -113);
        text("in 0 x;out 1 x&1", -114);
        text("\u007f", -100);
    }

    private static void faultsAtTheEnd() {
        check.about("promise 7, texts that end too early");
        text("", -100);
        text("in ", -103);
        text("in 0", -104);
        text("in 0 ", -105);
        text("in 0 x;", -107);
        text("in 0 x;out", -110);
        text("in 0 x;out 1", -112);
        text("in 0 x;out 1 ", -113);
        text("in 0 x;out 1 (x", -115);
        text("in 0 x;if ", -110);
        text("in 0 x;if x<", -112);
        text("in 0 x;if x<1&1", -115);
        text("in 0 x;empty ", -113);
        text("out 1 5", -107);
        text("empty 3", -107);
        text("if 1<2", -106);
        text("out 1 5;", -108);
    }

    private static void ruleAndTheTape() {
        check.about("promise 7, the tape and the part");
        TokenNet net = new TokenNet();
        Check.feed(net, "in 0 x");
        check.due("rule(10)", net.rule(10), -1);
        check.due("told(3)", net.told(3), 6);
        check.due("rule(0)", net.rule(0), 1);
        check.due("told(3)", net.told(3), 0);
        check.due("a faulty text", Check.rule(net, 0, "in 1 y;"), -107);
        check.due("told(3)", net.told(3), 0);
        check.due("spelled", Check.spelled(net, 0), "in 0 x");
        check.due("another text", Check.rule(net, 0, "in 1 y;out 2 y"), 2);
        check.due("spelled", Check.spelled(net, 0), "in 1 y;out 2 y");
        check.due("told(1)", net.told(1), 1);
        check.due("a faulty text for another part", Check.rule(net, 1, "in"), -102);
        check.due("told(1)", net.told(1), 1);
    }

    private static void drop() {
        check.about("promise 8, drop");
        TokenNet net = new TokenNet();
        check.due("drop(0)", net.drop(0), -3);
        check.due("drop(-1)", net.drop(-1), -1);
        check.due("drop(10)", net.drop(10), -1);
        Check.rule(net, 0, "in 0 x");
        Check.rule(net, 9, "in 0 x");
        check.due("drop(9)", net.drop(9), 1);
        check.due("drop(9)", net.drop(9), -3);
        check.due("spell(9)", net.spell(9), -3);
        check.due("told(1)", net.told(1), 1);
        check.due("spell(0)", net.spell(0), 6);
    }

    private static void has() {
        check.about("promise 9, has");
        TokenNet net = new TokenNet();
        check.due("has(0, 0)", net.has(0, 0), -3);
        check.due("has(0, 4)", net.has(0, 4), -1);
        check.due("has(0, -1)", net.has(0, -1), -1);
        check.due("has(10, 0)", net.has(10, 0), -1);
        check.due("has(-1, 9)", net.has(-1, 9), -1);
        Check.rule(net, 0, "in 0 x;if x<1&x<2&x<3;in 0 x;if x=0;out 1 1;empty 1;empty 2;empty 1");
        check.due("has(0, 0)", net.has(0, 0), 2);
        check.due("has(0, 1)", net.has(0, 1), 4);
        check.due("has(0, 2)", net.has(0, 2), 1);
        check.due("has(0, 3)", net.has(0, 3), 2);
        check.due("has(0, 4)", net.has(0, 4), -1);
        Check.rule(net, 0, "in 5 y");
        check.due("has(0, 0)", net.has(0, 0), 1);
        for (int what = 1; what < 4; what++) {
            check.due("has(0, " + what + ")", net.has(0, what), 0);
        }
    }

    private static void spelled(String text, String want) {
        TokenNet net = new TokenNet();
        Check.rule(net, 2, text);
        check.due("spell(2)", net.spell(2), want.length());
        check.due("spelled of \"" + text + "\"", Check.paper(net), want);
    }

    /** An expression of a part that has taken x, y and z. */
    private static void expression(String text, String want) {
        String ahead = "in 0 x;in 0 y;in 0 z;out 1 ";
        spelled(ahead + text, ahead + want);
    }

    private static void spell() {
        check.about("promise 10, spell");
        TokenNet net = new TokenNet();
        check.due("spell(0)", net.spell(0), -3);
        check.due("spell(10)", net.spell(10), -1);
        check.due("spell(-1)", net.spell(-1), -1);
        spelled("in 0 x", "in 0 x");
        spelled("empty 3;out 2 07;in 9 z;if 00<z;empty 3;in 1 z", "empty 3;out 2 7;in 9 z;if 0<z;empty 3;in 1 z");
        spelled("in 0 x;if (x+1)<(2)&((x))=x&x>(x-(x-1))", "in 0 x;if x+1<2&x=x&x>x-(x-1)");
        spelled("in 0 x;if 1<(2*(3))&(1-2)-3=(1*2)*3", "in 0 x;if 1<2*3&1-2-3=1*2*3");
        expression("(x+y)+z", "x+y+z");
        expression("x+(y+z)", "x+(y+z)");
        expression("x-(y-z)", "x-(y-z)");
        expression("x+(y-z)", "x+(y-z)");
        expression("x-(y+z)", "x-(y+z)");
        expression("(x-y)-z", "x-y-z");
        expression("(x-y)+z", "x-y+z");
        expression("x*(y*z)", "x*(y*z)");
        expression("(x*y)*z", "x*y*z");
        expression("(x+y)*z", "(x+y)*z");
        expression("x*(y+z)", "x*(y+z)");
        expression("(x+y)*(y+z)", "(x+y)*(y+z)");
        expression("(x*y)+z", "x*y+z");
        expression("x+(y*z)", "x+y*z");
        expression("x-((y*z))", "x-y*z");
        expression("((x+y))", "x+y");
        expression("((x+y))*z", "(x+y)*z");
        expression("x+((y))+(09)", "x+y+9");
        expression("(((((x)))))", "x");
        expression("((x)*(y))*(z)-((x-y))", "x*y*z-(x-y)");
        expression("((x+y)*z)+x", "(x+y)*z+x");
        expression("x*((y+z)*x)", "x*((y+z)*x)");
        expression("00+01*10", "0+1*10");
        Check.rule(net, 0, "in 1 y");
        net.spell(0);
        check.due("spell(1)", net.spell(1), -3);
        check.due("the paper stays", Check.paper(net), "in 1 y");
    }

    private static void line() {
        check.about("promise 11, line");
        TokenNet net = new TokenNet();
        check.due("line()", net.line(), 0);
        Check.put(net, 9, 0);
        check.due("line()", net.line(), 4);
        check.due("line", Check.paper(net), "P9=0");
        Check.put(net, 0, 10, 9, 99, 0);
        Check.put(net, 5, 5);
        check.due("line", Check.line(net), "P0=10,9,99,0 P5=5 P9=0");
        TokenNet full = new TokenNet();
        for (int place = 0; place < 10; place++) {
            Check.put(full, place, 99, 98, 97, 96, 95, 10);
        }
        check.due("line() of full places", full.line(), 10 * 20 + 9);
        check.due("its last byte", full.paper(208), '0');
        check.due("the byte behind", full.paper(209), -1);
        net.take(9, 0);
        check.due("the paper until the next one", Check.paper(net), "P0=10,9,99,0 P5=5 P9=0");
    }

    private static void paper() {
        check.about("promise 12, paper");
        TokenNet net = new TokenNet();
        check.due("paper(0)", net.paper(0), -1);
        Check.rule(net, 0, "in 7 y");
        net.spell(0);
        check.due("paper(0)", net.paper(0), 'i');
        check.due("paper(2)", net.paper(2), ' ');
        check.due("paper(3)", net.paper(3), '7');
        check.due("paper(5)", net.paper(5), 'y');
        check.due("paper(6)", net.paper(6), -1);
        check.due("paper(-1)", net.paper(-1), -1);
        net.line();
        check.due("paper(0) behind an empty line", net.paper(0), -1);
    }
}
