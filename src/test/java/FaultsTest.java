import java.util.Random;

/** Promise 7 and 10 over many texts: the fault, the clauses and the spelling against the model. */
final class FaultsTest {
    private static final String LETTERS = "in 0x;if<=>&+-*()outempty19yz w#";

    public static void main(String[] args) {
        int texts = args.length > 0 ? Integer.parseInt(args[0]) : 60000;
        Random random = new Random(20261120);
        Check check = new Check();
        for (int i = 0; i < texts && check.wrong() < 5; i++) {
            check.about("text " + i);
            String text = new Texts(random, 10).rule();
            text = random.nextInt(2) == 0 ? text : spoiled(random, text);
            compare(check, text.substring(0, Math.min(80, text.length())));
        }
        check.end();
    }

    private static String spoiled(Random random, String text) {
        StringBuilder spoiled = new StringBuilder(text);
        int times = 1 + random.nextInt(2);
        for (int i = 0; i < times && spoiled.length() > 0; i++) {
            int at = random.nextInt(Math.min(80, spoiled.length()));
            char letter = LETTERS.charAt(random.nextInt(LETTERS.length()));
            switch (random.nextInt(4)) {
                case 0:
                    spoiled.setLength(at);
                    break;
                case 1:
                    spoiled.deleteCharAt(at);
                    break;
                case 2:
                    spoiled.insert(at, letter);
                    break;
                default:
                    spoiled.setCharAt(at, letter);
            }
        }
        return spoiled.toString();
    }

    private static void compare(Check check, String text) {
        TokenNet net = new TokenNet();
        int fault = Model.fault(text);
        int answer = Check.rule(net, 3, text);
        if (fault >= 0) {
            check.due("rule of \"" + text + "\"", answer, -100 - fault);
            return;
        }
        Model model = new Model();
        model.rules[3] = Model.read(text);
        check.due("rule of \"" + text + "\"", answer, model.rules[3].clauses.size());
        model.spell(3);
        check.due("spelled of \"" + text + "\"", Check.spelled(net, 3), model.paper);
        for (int what = 0; what < 4; what++) {
            check.due("has(3, " + what + ") of \"" + text + "\"", net.has(3, what), model.has(3, what));
        }
    }
}
