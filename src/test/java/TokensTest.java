/** Promises 1 to 4: a new object, put, take, token. */
final class TokensTest {
    private static final Check check = new Check();

    public static void main(String[] args) {
        newObject();
        put();
        take();
        token();
        check.end();
    }

    private static void newObject() {
        check.about("promise 1, a new object");
        TokenNet net = new TokenNet();
        for (int place = 0; place < 10; place++) {
            check.due("token(" + place + ", -1)", net.token(place, -1), 0);
        }
        for (int part = 0; part < 10; part++) {
            check.due("can(" + part + ")", net.can(part), -3);
        }
        for (int what = 0; what < 5; what++) {
            check.due("told(" + what + ")", net.told(what), 0);
        }
        check.due("all()", net.all(), 0);
        check.due("paper(0)", net.paper(0), -1);
        check.due("undo()", net.undo(), -3);
        TokenNet other = new TokenNet();
        other.put(0, 1);
        check.due("another object's tokens", net.token(0, -1), 0);
    }

    private static void put() {
        check.about("promise 2, put");
        TokenNet net = new TokenNet();
        check.due("put(0, 0)", net.put(0, 0), 1);
        check.due("put(0, 99)", net.put(0, 99), 2);
        check.due("put(9, 50)", net.put(9, 50), 1);
        check.due("put(-1, 5)", net.put(-1, 5), -1);
        check.due("put(10, 5)", net.put(10, 5), -1);
        check.due("put(10, 100)", net.put(10, 100), -1);
        check.due("put(0, -1)", net.put(0, -1), -2);
        check.due("put(0, 100)", net.put(0, 100), -2);
        check.due("told(0)", net.told(0), 3);
        for (int i = 3; i <= 6; i++) {
            check.due("put(0, " + i + ")", net.put(0, i), i);
        }
        check.due("a 7th put", net.put(0, 7), -4);
        check.due("a 7th put that is bad", net.put(0, 100), -2);
        check.due("line", Check.line(net), "P0=0,99,3,4,5,6 P9=50");
    }

    private static void take() {
        check.about("promise 3, take");
        TokenNet net = new TokenNet();
        Check.put(net, 3, 10, 20, 30, 40);
        check.due("take(3, 4)", net.take(3, 4), -1);
        check.due("take(3, -1)", net.take(3, -1), -1);
        check.due("take(-1, 0)", net.take(-1, 0), -1);
        check.due("take(10, 0)", net.take(10, 0), -1);
        check.due("take(2, 0)", net.take(2, 0), -1);
        check.due("take(3, 1)", net.take(3, 1), 20);
        check.due("line", Check.line(net), "P3=10,30,40");
        check.due("take(3, 2)", net.take(3, 2), 40);
        check.due("take(3, 0)", net.take(3, 0), 10);
        check.due("take(3, 0)", net.take(3, 0), 30);
        check.due("take(3, 0)", net.take(3, 0), -1);
        for (int place = 0; place < 10; place += 9) {
            TokenNet full = new TokenNet();
            Check.put(full, place, 1, 2, 3, 4, 5, 6);
            check.due("take(" + place + ", 0) of a full place", full.take(place, 0), 1);
            check.due("take(" + place + ", 4)", full.take(place, 4), 6);
            check.due("take(" + place + ", 4)", full.take(place, 4), -1);
            check.due("line", Check.line(full), "P" + place + "=2,3,4,5");
            check.due("put(" + place + ", 6)", full.put(place, 6), 5);
        }
        check.due("put(3, 7)", net.put(3, 7), 1);
        check.due("token(3, 0)", net.token(3, 0), 7);
    }

    private static void token() {
        check.about("promise 4, token");
        TokenNet net = new TokenNet();
        Check.put(net, 9, 5, 0, 5);
        check.due("token(9, -1)", net.token(9, -1), 3);
        check.due("token(9, 0)", net.token(9, 0), 5);
        check.due("token(9, 1)", net.token(9, 1), 0);
        check.due("token(9, 2)", net.token(9, 2), 5);
        check.due("token(9, 3)", net.token(9, 3), -1);
        check.due("token(9, -2)", net.token(9, -2), -1);
        check.due("token(8, 0)", net.token(8, 0), -1);
        check.due("token(8, -1)", net.token(8, -1), 0);
        check.due("token(10, -1)", net.token(10, -1), -1);
        check.due("token(-1, -1)", net.token(-1, -1), -1);
        check.due("told(0)", net.told(0), 3);
    }
}
