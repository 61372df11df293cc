/** Promises 31 to 33: told, image, undo. */
final class ToldTest {
    private static final Check check = new Check();

    public static void main(String[] args) {
        told();
        image();
        undo();
        check.end();
    }

    private static void told() {
        check.about("promise 31, told");
        TokenNet net = new TokenNet();
        check.due("told(5)", net.told(5), -1);
        check.due("told(-1)", net.told(-1), -1);
        Check.put(net, 0, 1, 2);
        Check.put(net, 9, 3);
        Check.rule(net, 0, "in 0 x");
        Check.rule(net, 7, "in 9 x");
        Check.feed(net, "abcd");
        net.go(0);
        net.line();
        check.due("told(0)", net.told(0), 2);
        check.due("told(1)", net.told(1), 2);
        check.due("told(2)", net.told(2), 1);
        check.due("told(3)", net.told(3), 4);
        check.due("told(4)", net.told(4), 9);
        check.due("paper", Check.paper(net), "P0=2 P9=3");
    }

    private static void image() {
        check.about("promise 32, image");
        TokenNet net = new TokenNet();
        check.due("image() of nothing", net.image(), 0);
        Check.put(net, 3, 1, 1, 1);
        check.due("image()", net.image(), 3);
        check.due("told(0)", net.told(0), 3);
        net.put(3, 1);
        check.due("undo() to the latest image", net.undo(), 3);
    }

    private static void undo() {
        check.about("promise 33, undo");
        TokenNet net = new TokenNet();
        check.due("undo()", net.undo(), -3);
        Check.put(net, 0, 1, 2, 3);
        Check.rule(net, 0, "in 0 x;out 1 x");
        Check.rule(net, 1, "in 1 x");
        net.go(0);
        check.due("image()", net.image(), 3);
        net.go(0);
        net.go(1);
        net.drop(1);
        Check.rule(net, 0, "in 2 y");
        Check.rule(net, 5, "in 5 y");
        Check.feed(net, "in 7 z");
        net.put(8, 8);
        net.line();
        String paper = Check.paper(net);
        check.due("undo()", net.undo(), 3);
        check.due("the tape stays", net.told(3), 6);
        check.due("the paper stays", Check.paper(net), paper);
        check.due("line", Check.line(net), "P0=2,3 P1=1");
        check.due("told(1)", net.told(1), 2);
        check.due("told(2)", net.told(2), 1);
        check.due("rule 0", Check.spelled(net, 0), "in 0 x;out 1 x");
        check.due("rule 1", Check.spelled(net, 1), "in 1 x");
        check.due("rule 5", Check.spelled(net, 5), "-3");
        check.due("go(1)", net.go(1), 2);
        net.put(4, 4);
        check.due("undo() once more", net.undo(), 3);
        check.due("line", Check.line(net), "P0=2,3 P1=1");
        check.due("told(2)", net.told(2), 1);
    }
}
