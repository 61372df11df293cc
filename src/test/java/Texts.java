import java.util.Random;

/** Texts of rules, by a source of numbers that is the same each time. */
final class Texts {
    private final Random random;
    private final int most;
    private String names = "";

    Texts(Random random, int most) {
        this.random = random;
        this.most = most;
    }

    String rule() {
        StringBuilder text = new StringBuilder();
        int ins = 1 + random.nextInt(random.nextInt(12) == 0 ? 4 : 3);
        int outs = random.nextInt(random.nextInt(12) == 0 ? 5 : 4);
        int ifs = random.nextInt(3) == 0 ? random.nextInt(3) : 0;
        int empties = random.nextInt(4) == 0 ? 1 + random.nextInt(3) : 0;
        while (ins + outs + ifs + empties > 0) {
            int kind = random.nextInt(6);
            String clause = null;
            if (ins > 0 && (kind < 3 || names.isEmpty() && kind < 5)) {
                ins--;
                clause = in();
            } else if (kind == 3 && outs > 0) {
                outs--;
                clause = "out " + place() + " " + expression(0);
            } else if (kind == 4 && ifs > 0) {
                ifs--;
                clause = "if " + condition();
            } else if (kind == 5 && empties > 0) {
                empties--;
                clause = "empty " + place();
            }
            if (clause != null) {
                text.append(text.length() == 0 ? "" : ";").append(clause);
            }
        }
        return text.toString();
    }

    private String in() {
        char name = "xyz".charAt(random.nextInt(3));
        names += name;
        return "in " + place() + " " + name;
    }

    private int place() {
        return random.nextInt(6) == 0 ? 9 : random.nextInt(most);
    }

    private String condition() {
        StringBuilder text = new StringBuilder();
        int compared = 1 + random.nextInt(2);
        for (int i = 0; i < compared; i++) {
            text.append(i == 0 ? "" : "&").append(expression(2)).append("<=>".charAt(random.nextInt(3)));
            text.append(expression(2));
        }
        return text.toString();
    }

    /** Some brackets are one too deep, and some names are not told: that is a fault then. */
    private String expression(int depth) {
        int kind = random.nextInt(depth < 2 ? 6 : 8);
        if (depth > 6 || kind > 4) {
            return Integer.toString(random.nextInt(3) == 0 ? random.nextInt(100) : random.nextInt(4));
        }
        if (kind > 2) {
            boolean isTold = !names.isEmpty() && random.nextInt(40) > 0;
            return String.valueOf(isTold ? names.charAt(random.nextInt(names.length())) : 'y');
        }
        if (kind == 0) {
            return "(" + expression(depth + 1) + ")";
        }
        char sign = "+-*".charAt(random.nextInt(3));
        return side(depth) + sign + side(depth);
    }

    private String side(int depth) {
        String text = expression(depth + 1);
        return text.length() > 1 && random.nextInt(2) == 0 ? "(" + text + ")" : text;
    }
}
