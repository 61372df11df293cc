/** What the tests of the project share: answers that are due, texts on THE TAPE and on THE PAPER. */
final class Check {
    private int wrong = 0;
    private String about = "";

    void about(String promise) {
        about = promise;
    }

    void due(String call, long got, long want) {
        if (got != want) {
            wrong++;
            System.out.println(about + ": " + call + " answered " + got + ", due is " + want);
        }
    }

    void due(String call, String got, String want) {
        if (!got.equals(want)) {
            wrong++;
            System.out.println(about + ": " + call + " gave \"" + got + "\", due is \"" + want + "\"");
        }
    }

    void fail(String what) {
        wrong++;
        System.out.println(about + ": " + what);
    }

    int wrong() {
        return wrong;
    }

    void end() {
        System.out.println(wrong == 0 ? "all answers are as due" : wrong + " answers are not as due");
        if (wrong != 0) {
            System.exit(1);
        }
    }

    static void feed(TokenNet net, String text) {
        for (int i = 0; i < text.length(); i++) {
            net.feed(text.charAt(i));
        }
    }

    static int rule(TokenNet net, int part, String text) {
        feed(net, text);
        return net.rule(part);
    }

    static String paper(TokenNet net) {
        StringBuilder text = new StringBuilder();
        int length = net.told(4);
        for (int i = 0; i < length; i++) {
            text.append((char) net.paper(i));
        }
        return text.toString();
    }

    static String spelled(TokenNet net, int part) {
        int length = net.spell(part);
        return length < 0 ? String.valueOf(length) : paper(net);
    }

    static String line(TokenNet net) {
        net.line();
        return paper(net);
    }

    /** A net with these as the rules of parts 0, 1 .. */
    static TokenNet with(String... rules) {
        TokenNet net = new TokenNet();
        for (int part = 0; part < rules.length; part++) {
            if (rule(net, part, rules[part]) < 1) {
                throw new IllegalArgumentException("no rule: " + rules[part]);
            }
        }
        return net;
    }

    static void put(TokenNet net, int place, int... tokens) {
        for (int token : tokens) {
            net.put(place, token);
        }
    }
}
