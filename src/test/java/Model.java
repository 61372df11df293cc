import java.math.BigInteger;
import java.util.ArrayDeque;
import java.util.ArrayList;
import java.util.Arrays;
import java.util.Deque;
import java.util.List;
import java.util.TreeMap;
import java.util.TreeSet;

/**
 * The document once more, by other means than the class: texts are read byte by byte by a table of states,
 * expressions are trees, markings are lists, every binding is listed, weights are solved for place by place.
 */
final class Model {
    static final long NO = Long.MIN_VALUE;

    record Clause(String word, int place, char name, Tree tree) { }

    /** A number, a name or a sign with two sides. */
    record Tree(char sign, int number, Tree left, Tree right) {
        static int rank(char sign) {
            return sign == '&' ? 0 : "<=>".indexOf(sign) >= 0 ? 1 : sign == '+' || sign == '-' ? 2 : sign == '*' ? 3 : 4;
        }

        int value(TreeMap<Character, Integer> names) {
            switch (sign) {
                case 'n': return number;
                case 'x': case 'y': case 'z': return names.get(sign);
                case '+': return left.value(names) + right.value(names);
                case '-': return left.value(names) - right.value(names);
                case '*': return left.value(names) * right.value(names);
                case '<': return left.value(names) < right.value(names) ? 1 : 0;
                case '=': return left.value(names) == right.value(names) ? 1 : 0;
                case '>': return left.value(names) > right.value(names) ? 1 : 0;
                default: return left.value(names) == 1 && right.value(names) == 1 ? 1 : 0;
            }
        }

        int compared() {
            return left == null ? 0 : left.compared() + right.compared() + (rank(sign) == 1 ? 1 : 0);
        }

        String text() {
            if (left == null) {
                return sign == 'n' ? Integer.toString(number) : Character.toString(sign);
            }
            String a = rank(left.sign) < rank(sign) ? "(" + left.text() + ")" : left.text();
            String b = rank(right.sign) <= rank(sign) ? "(" + right.text() + ")" : right.text();
            return a + sign + b;
        }
    }

    static final class Rule {
        final List<Clause> clauses = new ArrayList<>();

        List<Clause> all(String word) {
            List<Clause> found = new ArrayList<>();
            for (Clause clause : clauses) {
                if (clause.word().equals(word)) {
                    found.add(clause);
                }
            }
            return found;
        }

        int change(int place) {
            int change = 0;
            for (Clause clause : clauses) {
                if (clause.place() == place) {
                    change += clause.word().equals("out") ? 1 : clause.word().equals("in") ? -1 : 0;
                }
            }
            return change;
        }
    }

    List<List<Integer>> now = nothing();
    final Rule[] rules = new Rule[10];
    String tape = "";
    String paper = "";
    int went = 0;
    List<List<Integer>> imageTokens;
    Rule[] imageRules;
    int imageWent;

    static List<List<Integer>> nothing() {
        List<List<Integer>> marking = new ArrayList<>();
        for (int place = 0; place < 10; place++) {
            marking.add(new ArrayList<>());
        }
        return marking;
    }

    static List<List<Integer>> copy(List<List<Integer>> marking) {
        List<List<Integer>> other = new ArrayList<>();
        for (List<Integer> tokens : marking) {
            other.add(new ArrayList<>(tokens));
        }
        return other;
    }

    static boolean ten(int number) {
        return number >= 0 && number < 10;
    }

    int total() {
        int total = 0;
        for (List<Integer> tokens : now) {
            total += tokens.size();
        }
        return total;
    }

    long put(int place, int token) {
        if (!ten(place)) return -1;
        if (token < 0 || token > 99) return -2;
        if (now.get(place).size() == 6) return -4;
        now.get(place).add(token);
        return now.get(place).size();
    }

    long take(int place, int i) {
        if (!ten(place) || i < 0 || i >= now.get(place).size()) return -1;
        return now.get(place).remove(i);
    }

    long token(int place, int i) {
        if (!ten(place)) return -1;
        if (i == -1) return now.get(place).size();
        return i < 0 || i >= now.get(place).size() ? -1 : now.get(place).get(i);
    }

    long feed(int letter) {
        if (letter < 1 || letter > 127) return -2;
        if (tape.length() == 80) return -4;
        tape += (char) letter;
        return tape.length();
    }

    long clear() {
        int had = tape.length();
        tape = "";
        return had;
    }

    /**
     * The fault by states: which bytes may come next follows from the state alone. -1: no fault.
     * c: a clause begins, b: the blank behind a word, p: a place, s: the blank behind a place, m: a name,
     * o: an operand, d: a second figure or what follows an operand, f: what follows an operand, e: a clause's end.
     */
    static int fault(String text) {
        char state = 'c';
        String word = "";
        int ins = 0;
        int outs = 0;
        int depth = 0;
        boolean compared = false;
        String told = "";
        for (int i = 0; i <= text.length(); i++) {
            char c = i < text.length() ? text.charAt(i) : 0;
            boolean end = i == text.length();
            switch (state) {
                case 'c':
                    word = text.substring(i).replaceAll("(?s)[^a-z].*", "");
                    if (!List.of("in", "if", "out", "empty").contains(word)) return i;
                    if (word.equals("in") && ins == 3 || word.equals("out") && outs == 3) return i;
                    ins += word.equals("in") ? 1 : 0;
                    outs += word.equals("out") ? 1 : 0;
                    i += word.length() - 1;
                    state = 'b';
                    break;
                case 'b':
                    if (c != ' ') return i;
                    state = word.equals("if") ? 'o' : 'p';
                    depth = 0;
                    compared = false;
                    break;
                case 'p':
                    if (c < '0' || c > '9') return i;
                    state = word.equals("empty") ? 'e' : 's';
                    break;
                case 's':
                    if (c != ' ') return i;
                    state = word.equals("in") ? 'm' : 'o';
                    break;
                case 'm':
                    if (c != 'x' && c != 'y' && c != 'z') return i;
                    told += c;
                    state = 'e';
                    break;
                case 'o':
                    if (c >= '0' && c <= '9') {
                        state = 'd';
                    } else if (c >= 'x' && c <= 'z' && told.indexOf(c) >= 0) {
                        state = 'f';
                    } else if (c == '(' && depth < 5) {
                        depth++;
                    } else {
                        return i;
                    }
                    break;
                case 'd':
                case 'f':
                    if (state == 'd' && c >= '0' && c <= '9') {
                        state = 'f';
                    } else if (c == ')' && depth > 0) {
                        depth--;
                        state = 'f';
                    } else if (c == '+' || c == '-' || c == '*') {
                        state = 'o';
                    } else if (depth == 0 && word.equals("if") && !compared && (c == '<' || c == '=' || c == '>')) {
                        compared = true;
                        state = 'o';
                    } else if (depth == 0 && compared && c == '&') {
                        compared = false;
                        state = 'o';
                    } else if (depth == 0 && (word.equals("out") || compared) && (c == ';' || end)) {
                        state = 'c';
                    } else {
                        return i;
                    }
                    if (end) return ins == 0 ? i : -1;
                    break;
                default:
                    if (end) return ins == 0 ? i : -1;
                    if (c != ';') return i;
                    state = 'c';
            }
        }
        throw new IllegalStateException(text);
    }

    /** A text without a fault, by two stacks. */
    static Tree tree(String text) {
        Deque<Tree> trees = new ArrayDeque<>();
        Deque<Character> signs = new ArrayDeque<>();
        for (int i = 0; i < text.length(); i++) {
            char c = text.charAt(i);
            if (Character.isDigit(c)) {
                int to = i + 1 < text.length() && Character.isDigit(text.charAt(i + 1)) ? i + 2 : i + 1;
                trees.push(new Tree('n', Integer.parseInt(text.substring(i, to)), null, null));
                i = to - 1;
            } else if (c >= 'x' && c <= 'z') {
                trees.push(new Tree(c, 0, null, null));
            } else if (c == '(') {
                signs.push(c);
            } else if (c == ')') {
                while (signs.peek() != '(') {
                    fold(trees, signs);
                }
                signs.pop();
            } else {
                while (!signs.isEmpty() && signs.peek() != '(' && Tree.rank(signs.peek()) >= Tree.rank(c)) {
                    fold(trees, signs);
                }
                signs.push(c);
            }
        }
        while (!signs.isEmpty()) {
            fold(trees, signs);
        }
        return trees.pop();
    }

    static void fold(Deque<Tree> trees, Deque<Character> signs) {
        Tree right = trees.pop();
        Tree left = trees.pop();
        trees.push(new Tree(signs.pop(), 0, left, right));
    }

    static Rule read(String text) {
        Rule rule = new Rule();
        for (String clause : text.split(";")) {
            String[] words = clause.split(" ");
            boolean isIf = words[0].equals("if");
            int place = isIf ? -1 : Integer.parseInt(words[1]);
            char name = words[0].equals("in") ? words[2].charAt(0) : 0;
            Tree tree = isIf ? tree(words[1]) : words[0].equals("out") ? tree(words[2]) : null;
            rule.clauses.add(new Clause(words[0], place, name, tree));
        }
        return rule;
    }

    long rule(int part) {
        if (!ten(part)) return -1;
        String text = tape;
        tape = "";
        int fault = fault(text);
        if (fault >= 0) return -100 - fault;
        rules[part] = read(text);
        return rules[part].clauses.size();
    }

    long drop(int part) {
        if (!ten(part)) return -1;
        if (rules[part] == null) return -3;
        rules[part] = null;
        return 1;
    }

    long has(int part, int what) {
        if (!ten(part) || what < 0 || what > 3) return -1;
        if (rules[part] == null) return -3;
        if (what == 0) return rules[part].all("in").size();
        if (what == 2) return rules[part].all("out").size();
        int conditions = 0;
        for (Clause clause : rules[part].all("if")) {
            conditions += clause.tree().compared();
        }
        TreeSet<Integer> places = new TreeSet<>();
        for (Clause clause : rules[part].all("empty")) {
            places.add(clause.place());
        }
        return what == 1 ? conditions : places.size();
    }

    long spell(int part) {
        if (!ten(part)) return -1;
        if (rules[part] == null) return -3;
        List<String> clauses = new ArrayList<>();
        for (Clause clause : rules[part].clauses) {
            switch (clause.word()) {
                case "in": clauses.add("in " + clause.place() + " " + clause.name()); break;
                case "out": clauses.add("out " + clause.place() + " " + clause.tree().text()); break;
                case "if": clauses.add("if " + clause.tree().text()); break;
                default: clauses.add("empty " + clause.place());
            }
        }
        paper = String.join(";", clauses);
        return paper.length();
    }

    long line() {
        List<String> places = new ArrayList<>();
        for (int place = 0; place < 10; place++) {
            if (!now.get(place).isEmpty()) {
                places.add("P" + place + "=" + now.get(place).toString().replaceAll("[\\[\\] ]", ""));
            }
        }
        paper = String.join(" ", places);
        return paper.length();
    }

    long paper(int i) {
        return i < 0 || i >= paper.length() ? -1 : paper.charAt(i);
    }

    /** Every binding, in order. */
    static List<int[]> bindings(Rule rule, List<List<Integer>> marking) {
        List<Clause> takes = rule.all("in");
        List<int[]> found = new ArrayList<>();
        int all = 1;
        for (int i = 0; i < takes.size(); i++) {
            all *= 6;
        }
        for (int number = 0; number < all; number++) {
            int[] chosen = new int[takes.size()];
            int rest = number;
            for (int i = takes.size() - 1; i >= 0; i--) {
                chosen[i] = rest % 6;
                rest /= 6;
            }
            if (isBinding(rule, takes, marking, chosen)) {
                found.add(chosen);
            }
        }
        return found;
    }

    static TreeMap<Character, Integer> names(List<Clause> takes, List<List<Integer>> marking, int[] chosen) {
        TreeMap<Character, Integer> names = new TreeMap<>();
        for (int i = 0; i < chosen.length; i++) {
            names.put(takes.get(i).name(), marking.get(takes.get(i).place()).get(chosen[i]));
        }
        return names;
    }

    static boolean isBinding(Rule rule, List<Clause> takes, List<List<Integer>> marking, int[] chosen) {
        TreeSet<String> tokens = new TreeSet<>();
        TreeMap<Character, Integer> names = new TreeMap<>();
        for (int i = 0; i < chosen.length; i++) {
            List<Integer> there = marking.get(takes.get(i).place());
            if (chosen[i] >= there.size()) return false;
            if (!tokens.add(takes.get(i).place() + " " + chosen[i])) return false;
            Integer before = names.put(takes.get(i).name(), there.get(chosen[i]));
            if (before != null && !before.equals(there.get(chosen[i]))) return false;
        }
        for (Clause clause : rule.all("if")) {
            if (clause.tree().value(names) != 1) return false;
        }
        return true;
    }

    /** What is when the part has gone; null if it can't. */
    static List<List<Integer>> gone(Rule rule, List<List<Integer>> marking) {
        if (rule == null) return null;
        List<int[]> bindings = bindings(rule, marking);
        if (bindings.isEmpty()) return null;
        int[] chosen = bindings.get(0);
        List<Clause> takes = rule.all("in");
        List<List<Integer>> then = copy(marking);
        for (int i = 0; i < chosen.length; i++) {
            then.get(takes.get(i).place()).set(chosen[i], null);
        }
        for (List<Integer> tokens : then) {
            tokens.removeIf(token -> token == null);
        }
        for (Clause clause : rule.all("empty")) {
            then.get(clause.place()).clear();
        }
        for (Clause clause : rule.all("out")) {
            int value = clause.tree().value(names(takes, marking, chosen)) % 100;
            then.get(clause.place()).add(value < 0 ? value + 100 : value);
            if (then.get(clause.place()).size() > 6) return null;
        }
        return then;
    }

    long can(int part) {
        if (!ten(part)) return -1;
        if (rules[part] == null) return -3;
        return gone(rules[part], now) == null ? 0 : 1;
    }

    long bound(int part, int i) {
        if (!ten(part)) return -1;
        if (rules[part] == null) return -3;
        if (i < 0 || i >= rules[part].all("in").size()) return -1;
        List<int[]> bindings = bindings(rules[part], now);
        return bindings.isEmpty() ? -5 : bindings.get(0)[i];
    }

    long bindings(int part) {
        if (!ten(part)) return -1;
        return rules[part] == null ? -3 : bindings(rules[part], now).size();
    }

    long go(int part) {
        if (!ten(part)) return -1;
        List<List<Integer>> then = gone(rules[part], now);
        if (then == null) return -3;
        now = then;
        return ++went;
    }

    long all() {
        int able = 0;
        for (int part = 0; part < 10; part++) {
            able += gone(rules[part], now) == null ? 0 : 1 << part;
        }
        return able;
    }

    int times;

    List<List<Integer>> behind(int set, int n) {
        List<List<Integer>> then = now;
        times = 0;
        for (int turn = 0; turn < n; turn++) {
            for (int part = 0; part < 10; part++) {
                List<List<Integer>> next = (set & 1 << part) == 0 ? null : gone(rules[part], then);
                if (next != null) {
                    then = next;
                    times++;
                    break;
                }
            }
            if (times <= turn) break;
        }
        return then;
    }

    static boolean badTimes(int set, int n) {
        return set < 0 || set > 1023 || n < 1 || n > 200;
    }

    long again(int set, int n) {
        if (badTimes(set, n)) return -2;
        behind(set, n);
        return times;
    }

    long last(int set, int n, int place) {
        if (badTimes(set, n)) return -2;
        if (!ten(place)) return -1;
        List<Integer> tokens = behind(set, n).get(place);
        return tokens.isEmpty() ? -5 : tokens.get(tokens.size() - 1);
    }

    List<List<List<Integer>>> found;
    List<String> walks;
    List<Object> searched;

    /** Just what is found by this n; each walk is a text of figures. */
    void search(int n) {
        List<Object> by = List.of(n, copy(now), Arrays.asList(rules.clone()));
        if (by.equals(searched)) return;
        searched = by;
        found = new ArrayList<>(List.of(now));
        walks = new ArrayList<>(List.of(""));
        for (int from = 0; from < found.size(); from++) {
            for (int part = 0; part < 10 && found.size() < n; part++) {
                List<List<Integer>> next = gone(rules[part], found.get(from));
                if (next != null && !found.contains(next)) {
                    found.add(next);
                    walks.add(walks.get(from) + part);
                }
            }
        }
    }

    static boolean badReach(int n) {
        return n < 1 || n > 60;
    }

    long reach(int n) {
        if (badReach(n)) return -2;
        search(n);
        return found.size();
    }

    long most(int place, int n) {
        if (!ten(place)) return -1;
        if (badReach(n)) return -2;
        search(n);
        int most = 0;
        for (List<List<Integer>> marking : found) {
            most = Math.max(most, marking.get(place).size());
        }
        return most;
    }

    long dead(int n) {
        if (badReach(n)) return -2;
        search(n);
        int dead = 0;
        for (int part = 0; part < 10; part++) {
            boolean can = rules[part] == null;
            for (List<List<Integer>> marking : found) {
                can |= gone(rules[part], marking) != null;
            }
            dead += can ? 0 : 1 << part;
        }
        return dead;
    }

    long ends(int n) {
        if (badReach(n)) return -2;
        search(n);
        int ends = 0;
        for (List<List<Integer>> marking : found) {
            ends += marking.get(9).isEmpty() ? 0 : 1;
        }
        return ends;
    }

    long stuck(int n) {
        if (badReach(n)) return -2;
        search(n);
        boolean[][] leads = new boolean[found.size()][found.size()];
        for (int from = 0; from < found.size(); from++) {
            leads[from][from] = true;
            for (int part = 0; part < 10; part++) {
                List<List<Integer>> next = gone(rules[part], found.get(from));
                if (next != null && found.contains(next)) {
                    leads[from][found.indexOf(next)] = true;
                }
            }
        }
        for (int by = 0; by < found.size(); by++) {
            for (int from = 0; from < found.size(); from++) {
                for (int to = 0; to < found.size(); to++) {
                    leads[from][to] |= leads[from][by] && leads[by][to];
                }
            }
        }
        for (int from = 0; from < found.size(); from++) {
            boolean ends = false;
            for (int to = 0; to < found.size(); to++) {
                ends |= leads[from][to] && !found.get(to).get(9).isEmpty();
            }
            if (!ends) return from;
        }
        return -5;
    }

    long walk(int n, int marking, int i) {
        if (badReach(n)) return -2;
        search(n);
        if (marking < 0 || marking >= found.size()) return -1;
        String walk = walks.get(marking);
        return i == -1 ? walk.length() : i < 0 || i >= walk.length() ? -1 : walk.charAt(i) - '0';
    }

    long held(int n, int marking, int place) {
        if (badReach(n)) return -2;
        search(n);
        return marking < 0 || marking >= found.size() || !ten(place) ? -1 : found.get(marking).get(place).size();
    }

    long change(int part, int place) {
        if (!ten(part) || !ten(place)) return -1;
        return rules[part] == null ? -3 : rules[part].change(place);
    }

    record Fraction(BigInteger above, BigInteger below) {
        static final Fraction ZERO = of(0);

        static Fraction of(long number) {
            return new Fraction(BigInteger.valueOf(number), BigInteger.ONE);
        }

        static Fraction of(BigInteger above, BigInteger below) {
            BigInteger divisor = above.gcd(below).multiply(BigInteger.valueOf(below.signum()));
            return new Fraction(above.divide(divisor), below.divide(divisor));
        }

        Fraction plus(Fraction other) {
            return of(above.multiply(other.below).add(other.above.multiply(below)), below.multiply(other.below));
        }

        Fraction times(Fraction other) {
            return of(above.multiply(other.above), below.multiply(other.below));
        }

        Fraction over(Fraction other) {
            return of(above.multiply(other.below), below.multiply(other.above));
        }

        boolean isZero() {
            return above.signum() == 0;
        }
    }

    /** The one sum of fractions times these columns that is the goal; null if there is none. */
    static Fraction[] solve(List<int[]> columns, int[] goal) {
        int width = columns.size();
        List<Fraction[]> rows = new ArrayList<>();
        for (int part = 0; part < goal.length; part++) {
            Fraction[] row = new Fraction[width + 1];
            for (int at = 0; at < width; at++) {
                row[at] = Fraction.of(columns.get(at)[part]);
            }
            row[width] = Fraction.of(goal[part]);
            rows.add(row);
        }
        for (int at = 0; at < width; at++) {
            int by = at;
            while (rows.get(by)[at].isZero()) {
                by++;
            }
            Fraction[] row = rows.remove(by);
            rows.add(at, row);
            for (Fraction[] other : rows) {
                if (other != row && !other[at].isZero()) {
                    Fraction factor = other[at].over(row[at]).times(Fraction.of(-1));
                    for (int k = 0; k <= width; k++) {
                        other[k] = other[k].plus(row[k].times(factor));
                    }
                }
            }
        }
        for (int at = width; at < goal.length; at++) {
            if (!rows.get(at)[width].isZero()) return null;
        }
        Fraction[] sums = new Fraction[width];
        for (int at = 0; at < width; at++) {
            sums[at] = rows.get(at)[width].over(rows.get(at)[at]);
        }
        return sums;
    }

    List<Fraction[]> invariantRows() {
        List<Fraction[]> invariants = new ArrayList<>();
        List<int[]> columns = new ArrayList<>();
        List<Integer> places = new ArrayList<>();
        for (int place = 0; place < 10; place++) {
            int[] column = new int[10];
            for (int part = 0; part < 10; part++) {
                column[part] = rules[part] == null ? 0 : rules[part].change(place);
            }
            Fraction[] sums = solve(columns, column);
            if (sums == null) {
                columns.add(column);
                places.add(place);
                continue;
            }
            Fraction[] row = new Fraction[10];
            Arrays.fill(row, Fraction.ZERO);
            row[place] = Fraction.of(1);
            for (int at = 0; at < sums.length; at++) {
                row[places.get(at)] = sums[at].times(Fraction.of(-1));
            }
            invariants.add(row);
        }
        return invariants;
    }

    long invariants() {
        return invariantRows().size();
    }

    long weight(int invariant, int place, int part) {
        List<Fraction[]> rows = invariantRows();
        if (invariant < 0 || invariant >= rows.size() || !ten(place) || part < 0 || part > 1) return NO;
        Fraction weight = rows.get(invariant)[place];
        return (part == 0 ? weight.above() : weight.below()).longValueExact();
    }

    long sum(int invariant, int part) {
        List<Fraction[]> rows = invariantRows();
        if (invariant < 0 || invariant >= rows.size() || part < 0 || part > 1) return -1;
        Fraction sum = Fraction.ZERO;
        for (int place = 0; place < 10; place++) {
            sum = sum.plus(rows.get(invariant)[place].times(Fraction.of(now.get(place).size())));
        }
        return (part == 0 ? sum.above() : sum.below()).intValueExact();
    }

    long told(int what) {
        int parts = 0;
        for (Rule rule : rules) {
            parts += rule == null ? 0 : 1;
        }
        return what == 0 ? total() : what == 1 ? parts : what == 2 ? went : what == 3 ? tape.length()
                : what == 4 ? paper.length() : -1;
    }

    long image() {
        imageTokens = copy(now);
        imageRules = rules.clone();
        imageWent = went;
        return total();
    }

    long undo() {
        if (imageTokens == null) return -3;
        now = copy(imageTokens);
        System.arraycopy(imageRules, 0, rules, 0, 10);
        went = imageWent;
        return total();
    }
}
