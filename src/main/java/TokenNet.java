/** Workflow nets with functions on tokens. ../shared/DOC.md says what each call promises. */
public final class TokenNet {
    public static final int NONE = -1, BAD = -2, STATE = -3, FULL = -4;
    public static final long NO = Long.MIN_VALUE;

    private static final int NOTHING = -5;
    private static final int FAULTS = -100;
    private static final int PLACES = 10, PARTS = 10, SETS = 1 << PARTS;
    private static final int ROOM = 6, TOKENS = 100, LAST_PLACE = 9;
    private static final int TAPE_ROOM = 80, PAPER_ROOM = 256;
    private static final int NAMES = 3, TAKES = 3, GIVES = 3, CLAUSES = 12, BRACKETS = 5;
    private static final int MOST_FOUND = 60, MOST_TIMES = 200;

    /** The kinds of CLAUSES. */
    private static final int IN = 0, IF = 1, OUT = 2, EMPTY = 3, KINDS = 4;

    /** An item of code is a number below NAMED, a NAME from NAMED on, or a sign from SIGNED on. */
    private static final int NAMED = 100, SIGNED = 200;

    /** How tightly signs hold what stands beside them. */
    private static final int JOINS = 0, COMPARES = 1, ADDS = 2, MULTIPLIES = 3, ALONE = 4;

    private final Marking now, next, trial;
    private final Rule[] rules;
    private final Tape tape;
    private final Paper page;
    private final Firing firing;
    private final Walks walks;
    private final Balance balance;
    private final Image kept;
    private int went;
    private boolean walked;

    public TokenNet() {
        now = new Marking();
        next = new Marking();
        trial = new Marking();
        rules = new Rule[PARTS];
        tape = new Tape();
        page = new Paper();
        firing = new Firing();
        walks = new Walks();
        balance = new Balance();
        kept = new Image();
    }

    public int put(int place, int token) {
        if (!isPlace(place)) {
            return NONE;
        }
        if (token < 0 || token >= TOKENS) {
            return BAD;
        }
        if (!now.append(place, token)) {
            return FULL;
        }
        walked = false;
        return now.count(place);
    }

    public int take(int place, int i) {
        if (!now.holds(place, i)) {
            return NONE;
        }
        walked = false;
        return now.remove(place, i);
    }

    public int token(int place, int i) {
        if (!isPlace(place)) {
            return NONE;
        }
        return i == -1 ? now.count(place) : now.at(place, i);
    }

    public int feed(int letter) {
        if (letter < 1 || letter > 127) {
            return BAD;
        }
        return tape.append(letter) ? tape.length : FULL;
    }

    public int clear() {
        int had = tape.length;
        tape.wipe();
        return had;
    }

    public int rule(int part) {
        if (!isPart(part)) {
            return NONE;
        }
        Rule read = tape.read();
        tape.wipe();
        if (read == null) {
            return FAULTS - tape.fault;
        }
        rules[part] = read;
        walked = false;
        return read.clauses;
    }

    public int drop(int part) {
        if (!isPart(part)) {
            return NONE;
        }
        if (rules[part] == null) {
            return STATE;
        }
        rules[part] = null;
        walked = false;
        return 1;
    }

    public int has(int part, int what) {
        if (!isPart(part) || what < 0 || what > 3) {
            return NONE;
        }
        Rule rule = rules[part];
        if (rule == null) {
            return STATE;
        }
        switch (what) {
            case 0:
                return rule.takes;
            case 1:
                return rule.conditions;
            case 2:
                return rule.gives;
            default:
                return Integer.bitCount(rule.emptied);
        }
    }

    public int spell(int part) {
        if (!isPart(part)) {
            return NONE;
        }
        if (rules[part] == null) {
            return STATE;
        }
        page.writeRule(rules[part]);
        return page.length;
    }

    public int line() {
        page.writeMarking(now);
        return page.length;
    }

    public int paper(int i) {
        return page.at(i);
    }

    public int can(int part) {
        if (!isPart(part)) {
            return NONE;
        }
        if (rules[part] == null) {
            return STATE;
        }
        return firing.goes(rules[part], now, next) ? 1 : 0;
    }

    public int bound(int part, int i) {
        if (!isPart(part)) {
            return NONE;
        }
        Rule rule = rules[part];
        if (rule == null) {
            return STATE;
        }
        if (i < 0 || i >= rule.takes) {
            return NONE;
        }
        return firing.bindFirst(rule, now) ? firing.chosenFor(i) : NOTHING;
    }

    public int bindings(int part) {
        if (!isPart(part)) {
            return NONE;
        }
        if (rules[part] == null) {
            return STATE;
        }
        return firing.countBindings(rules[part], now);
    }

    public int go(int part) {
        if (!isPart(part)) {
            return NONE;
        }
        if (!firing.goes(rules[part], now, next)) {
            return STATE;
        }
        now.copy(next);
        walked = false;
        went++;
        return went;
    }

    public int all() {
        int able = 0;
        for (int part = 0; part < PARTS; part++) {
            if (firing.goes(rules[part], now, next)) {
                able |= 1 << part;
            }
        }
        return able;
    }

    public int again(int set, int n) {
        if (!isSet(set) || !isTimes(n)) {
            return BAD;
        }
        return tryOut(set, n);
    }

    public int last(int set, int n, int place) {
        if (!isSet(set) || !isTimes(n)) {
            return BAD;
        }
        if (!isPlace(place)) {
            return NONE;
        }
        tryOut(set, n);
        int count = trial.count(place);
        return count == 0 ? NOTHING : trial.at(place, count - 1);
    }

    public int reach(int n) {
        return isReach(n) ? walksNow().among(n) : BAD;
    }

    public int most(int place, int n) {
        if (!isPlace(place)) {
            return NONE;
        }
        return isReach(n) ? walksNow().fullest(place, n) : BAD;
    }

    public int dead(int n) {
        return isReach(n) ? rulesTold() & ~walksNow().ableSomewhere(n) : BAD;
    }

    public int ends(int n) {
        return isReach(n) ? walksNow().countEnds(n) : BAD;
    }

    public int stuck(int n) {
        return isReach(n) ? walksNow().firstStuck(n) : BAD;
    }

    public int walk(int n, int marking, int i) {
        if (!isReach(n)) {
            return BAD;
        }
        if (marking < 0 || marking >= walksNow().among(n)) {
            return NONE;
        }
        int steps = walks.steps(marking);
        if (i == -1) {
            return steps;
        }
        return i >= 0 && i < steps ? walks.step(marking, steps - 1 - i) : NONE;
    }

    public int held(int n, int marking, int place) {
        if (!isReach(n)) {
            return BAD;
        }
        if (marking < 0 || marking >= walksNow().among(n) || !isPlace(place)) {
            return NONE;
        }
        return walks.countIn(marking, place);
    }

    public int change(int part, int place) {
        if (!isPart(part) || !isPlace(place)) {
            return NONE;
        }
        return rules[part] == null ? STATE : rules[part].changeOf(place);
    }

    public int invariants() {
        balance.solve(rules);
        return balance.count();
    }

    public long weight(int invariant, int place, int part) {
        balance.solve(rules);
        int free = balance.placeOf(invariant);
        if (free < 0 || !isPlace(place) || !isSide(part)) {
            return NO;
        }
        balance.weigh(free, place);
        return part == 0 ? balance.above : balance.below;
    }

    public int sum(int invariant, int part) {
        balance.solve(rules);
        int free = balance.placeOf(invariant);
        if (free < 0 || !isSide(part)) {
            return NONE;
        }
        balance.addUp(free, now);
        return (int) (part == 0 ? balance.above : balance.below);
    }

    public int told(int what) {
        switch (what) {
            case 0:
                return now.total();
            case 1:
                return Integer.bitCount(rulesTold());
            case 2:
                return went;
            case 3:
                return tape.length;
            case 4:
                return page.length;
            default:
                return NONE;
        }
    }

    public int image() {
        kept.keep(now, rules, went);
        return now.total();
    }

    public int undo() {
        if (!kept.taken) {
            return STATE;
        }
        kept.giveBack(now, rules);
        went = kept.went;
        walked = false;
        return now.total();
    }

    private static boolean isPlace(int place) {
        return place >= 0 && place < PLACES;
    }

    private static boolean isPart(int part) {
        return part >= 0 && part < PARTS;
    }

    private static boolean isSet(int set) {
        return set >= 0 && set < SETS;
    }

    private static boolean isTimes(int n) {
        return n >= 1 && n <= MOST_TIMES;
    }

    private static boolean isReach(int n) {
        return n >= 1 && n <= MOST_FOUND;
    }

    private static boolean isSide(int part) {
        return part == 0 || part == 1;
    }

    private static boolean isFigure(int letter) {
        return letter >= '0' && letter <= '9';
    }

    private static boolean isName(int letter) {
        return letter >= 'x' && letter <= 'z';
    }

    private static String wordOf(int kind) {
        switch (kind) {
            case IN:
                return "in";
            case IF:
                return "if";
            case OUT:
                return "out";
            default:
                return "empty";
        }
    }

    private int rulesTold() {
        int parts = 0;
        for (int part = 0; part < PARTS; part++) {
            if (rules[part] != null) {
                parts |= 1 << part;
            }
        }
        return parts;
    }

    /** Leaves in trial what would be behind AGAIN, so that nothing of it stays in the MARKING now. */
    private int tryOut(int set, int n) {
        trial.copy(now);
        int times = 0;
        for (int turn = 0; turn < n; turn++) {
            if (!tryOne(set)) {
                break;
            }
            times++;
        }
        return times;
    }

    private boolean tryOne(int set) {
        for (int part = 0; part < PARTS; part++) {
            if ((set >> part & 1) == 1 && firing.goes(rules[part], trial, next)) {
                trial.copy(next);
                return true;
            }
        }
        return false;
    }

    /**
     * WALKS by the greatest n, kept until the MARKING or a RULE changes: those by a lesser n are its
     * first ones, with the LEADS among them alone.
     */
    private Walks walksNow() {
        if (!walked) {
            walks.search(now, rules, firing);
            walked = true;
        }
        return walks;
    }

    /** The TOKENS of all PLACES. */
    private static final class Marking {
        private final int[] counts;
        private final int[] tokens;

        Marking() {
            counts = new int[PLACES];
            tokens = new int[PLACES * ROOM];
        }

        int count(int place) {
            return place >= 0 && place < PLACES ? counts[place] : 0;
        }

        boolean holds(int place, int i) {
            return place >= 0 && place < PLACES && i >= 0 && i < ROOM && i < counts[place];
        }

        int at(int place, int i) {
            return holds(place, i) ? tokens[place * ROOM + i] : NONE;
        }

        boolean append(int place, int token) {
            if (!isPlace(place) || counts[place] >= ROOM) {
                return false;
            }
            tokens[place * ROOM + counts[place]] = token;
            counts[place]++;
            return true;
        }

        int remove(int place, int i) {
            if (!holds(place, i)) {
                return NONE;
            }
            int gone = tokens[place * ROOM + i];
            counts[place]--;
            for (int at = i; at < counts[place]; at++) {
                tokens[place * ROOM + at] = tokens[place * ROOM + at + 1];
            }
            return gone;
        }

        void wipe() {
            for (int place = 0; place < PLACES; place++) {
                counts[place] = 0;
            }
        }

        void copy(Marking other) {
            for (int place = 0; place < PLACES; place++) {
                counts[place] = other.counts[place];
            }
            for (int at = 0; at < PLACES * ROOM; at++) {
                tokens[at] = other.tokens[at];
            }
        }

        boolean isLike(Marking other) {
            for (int place = 0; place < PLACES; place++) {
                if (counts[place] != other.counts[place]) {
                    return false;
                }
                for (int i = 0; i < counts[place] && i < ROOM; i++) {
                    if (tokens[place * ROOM + i] != other.tokens[place * ROOM + i]) {
                        return false;
                    }
                }
            }
            return true;
        }

        int total() {
            int total = 0;
            for (int place = 0; place < PLACES; place++) {
                total += counts[place];
            }
            return total;
        }
    }

    /** A RULE: nothing of it changes once it has been read, so that PARTS and THE IMAGE may share it. */
    private static final class Rule {
        private int clauses, takes, gives, conditions, emptied, length;
        private final int[] kinds, places, names, begins, ends;
        private final int[] takeClauses, giveClauses;
        private final int[] code;

        Rule() {
            kinds = new int[CLAUSES];
            places = new int[CLAUSES];
            names = new int[CLAUSES];
            begins = new int[CLAUSES];
            ends = new int[CLAUSES];
            takeClauses = new int[TAKES];
            giveClauses = new int[GIVES];
            code = new int[TAPE_ROOM];
        }

        int kind(int clause) {
            return clause >= 0 && clause < CLAUSES ? kinds[clause] : NONE;
        }

        int place(int clause) {
            return clause >= 0 && clause < CLAUSES ? places[clause] : NONE;
        }

        int name(int clause) {
            return clause >= 0 && clause < CLAUSES ? names[clause] : NONE;
        }

        int begin(int clause) {
            return clause >= 0 && clause < CLAUSES ? begins[clause] : 0;
        }

        int end(int clause) {
            return clause >= 0 && clause < CLAUSES ? ends[clause] : 0;
        }

        int takeClause(int take) {
            return take >= 0 && take < TAKES ? takeClauses[take] : NONE;
        }

        int giveClause(int give) {
            return give >= 0 && give < GIVES ? giveClauses[give] : NONE;
        }

        int item(int at) {
            return at >= 0 && at < TAPE_ROOM ? code[at] : 0;
        }

        void addItem(int item) {
            if (length < TAPE_ROOM) {
                code[length] = item;
                length++;
            }
        }

        void addTake(int place, int name) {
            if (takes < TAKES && addClause(IN, place, name, length)) {
                takeClauses[takes] = clauses - 1;
                takes++;
            }
        }

        void addCondition(int begin, int compared) {
            if (addClause(IF, NONE, NONE, begin)) {
                conditions += compared;
            }
        }

        void addGive(int place, int begin) {
            if (gives < GIVES && addClause(OUT, place, NONE, begin)) {
                giveClauses[gives] = clauses - 1;
                gives++;
            }
        }

        void addEmpty(int place) {
            if (isPlace(place) && addClause(EMPTY, place, NONE, length)) {
                emptied |= 1 << place;
            }
        }

        /** Its code reaches from begin to what has been added so far. */
        private boolean addClause(int kind, int place, int name, int begin) {
            if (clauses >= CLAUSES) {
                return false;
            }
            kinds[clauses] = kind;
            places[clauses] = place;
            names[clauses] = name;
            begins[clauses] = begin;
            ends[clauses] = length;
            clauses++;
            return true;
        }

        int changeOf(int place) {
            int change = 0;
            for (int clause = 0; clause < clauses; clause++) {
                if (place(clause) == place && kind(clause) == OUT) {
                    change++;
                }
                if (place(clause) == place && kind(clause) == IN) {
                    change--;
                }
            }
            return change;
        }
    }

    /** THE TAPE, and how its text is read as a RULE. */
    private static final class Tape {
        private final int[] bytes;
        private int length, at, fault, named;
        private Rule draft;

        Tape() {
            bytes = new int[TAPE_ROOM];
            draft = new Rule();
        }

        boolean append(int letter) {
            if (length >= TAPE_ROOM) {
                return false;
            }
            bytes[length] = letter;
            length++;
            return true;
        }

        void wipe() {
            length = 0;
        }

        /** The RULE that the whole text is, or null: fault tells then where its FAULT is. */
        Rule read() {
            at = 0;
            named = 0;
            draft = new Rule();
            for (int clause = 0; clause < CLAUSES; clause++) {
                if (!readClause()) {
                    return null;
                }
                if (at >= length) {
                    break;
                }
                if (!expect(';')) {
                    return null;
                }
            }
            if (at < length || draft.takes == 0) {
                fault = length;
                return null;
            }
            return draft;
        }

        private boolean fail(int place) {
            fault = place;
            return false;
        }

        /** The byte that comes next; 0, which is no byte of THE TAPE, behind the text. */
        private int peek() {
            return at >= 0 && at < length && at < TAPE_ROOM ? bytes[at] : 0;
        }

        private int byteAt(int place) {
            return place >= 0 && place < length && place < TAPE_ROOM ? bytes[place] : 0;
        }

        private boolean expect(int letter) {
            if (peek() != letter) {
                return fail(at);
            }
            at++;
            return true;
        }

        private boolean readClause() {
            int begin = at;
            int end = wordEnd(begin);
            int kind = kindOf(begin, end);
            if (kind == NONE || isOneTooMany(kind)) {
                return fail(begin);
            }
            at = end;
            if (!expect(' ')) {
                return false;
            }
            if (kind == IF) {
                return readIf();
            }
            if (!isFigure(peek())) {
                return fail(at);
            }
            int place = peek() - '0';
            at++;
            if (kind == EMPTY) {
                draft.addEmpty(place);
                return true;
            }
            if (!expect(' ')) {
                return false;
            }
            return kind == IN ? readIn(place) : readOut(place);
        }

        private int wordEnd(int begin) {
            int end = begin;
            for (int step = 0; step < TAPE_ROOM; step++) {
                if (byteAt(end) < 'a' || byteAt(end) > 'z') {
                    break;
                }
                end++;
            }
            return end;
        }

        private int kindOf(int begin, int end) {
            for (int kind = 0; kind < KINDS; kind++) {
                if (isWord(wordOf(kind), begin, end)) {
                    return kind;
                }
            }
            return NONE;
        }

        private boolean isWord(String word, int begin, int end) {
            if (end - begin != word.length()) {
                return false;
            }
            for (int i = 0; i < word.length(); i++) {
                if (byteAt(begin + i) != word.charAt(i)) {
                    return false;
                }
            }
            return true;
        }

        private boolean isOneTooMany(int kind) {
            return kind == IN && draft.takes >= TAKES || kind == OUT && draft.gives >= GIVES;
        }

        private boolean readIn(int place) {
            if (!isName(peek())) {
                return fail(at);
            }
            int name = peek() - 'x';
            at++;
            named |= 1 << name;
            draft.addTake(place, name);
            return true;
        }

        private boolean readOut(int place) {
            int begin = draft.length;
            if (!readSum(0)) {
                return false;
            }
            draft.addGive(place, begin);
            return true;
        }

        private boolean readIf() {
            int begin = draft.length;
            for (int compared = 1; compared < TAPE_ROOM; compared++) {
                if (!readComparison()) {
                    return false;
                }
                if (compared > 1) {
                    draft.addItem(SIGNED + '&');
                }
                if (peek() != '&') {
                    draft.addCondition(begin, compared);
                    return true;
                }
                at++;
            }
            return fail(at);
        }

        private boolean readComparison() {
            if (!readSum(0)) {
                return false;
            }
            int sign = peek();
            if (sign != '<' && sign != '=' && sign != '>') {
                return fail(at);
            }
            at++;
            if (!readSum(0)) {
                return false;
            }
            draft.addItem(SIGNED + sign);
            return true;
        }

        /** An E within so many brackets. A + or - waits until the product behind it is whole. */
        private boolean readSum(int brackets) {
            int waiting = 0;
            boolean isMultiplied = false;
            for (int factor = 0; factor < TAPE_ROOM; factor++) {
                if (!readFactor(brackets)) {
                    return false;
                }
                if (isMultiplied) {
                    draft.addItem(SIGNED + '*');
                }
                int sign = peek();
                isMultiplied = sign == '*';
                if (!isMultiplied) {
                    if (waiting != 0) {
                        draft.addItem(SIGNED + waiting);
                    }
                    if (sign != '+' && sign != '-') {
                        return true;
                    }
                    waiting = sign;
                }
                at++;
            }
            return fail(at);
        }

        /** A number has two figures at most: a third one is then a byte with which no RULE goes on. */
        private boolean readFactor(int brackets) {
            int letter = peek();
            if (isFigure(letter)) {
                int number = letter - '0';
                at++;
                if (isFigure(peek())) {
                    number = number * 10 + peek() - '0';
                    at++;
                }
                draft.addItem(number);
                return true;
            }
            if (isName(letter) && (named >> (letter - 'x') & 1) == 1) {
                at++;
                draft.addItem(NAMED + letter - 'x');
                return true;
            }
            if (letter != '(' || brackets >= BRACKETS) {
                return fail(at);
            }
            at++;
            if (!readSum(brackets + 1)) {
                return false;
            }
            if (peek() != ')') {
                return fail(at);
            }
            at++;
            return true;
        }
    }

    /** THE PAPER, and how RULES and MARKINGS are written on it. */
    private static final class Paper {
        private final int[] bytes;
        private final int[] starts, holds;
        private int length;

        Paper() {
            bytes = new int[PAPER_ROOM];
            starts = new int[TAPE_ROOM];
            holds = new int[TAPE_ROOM];
        }

        int at(int i) {
            return i >= 0 && i < length && i < PAPER_ROOM ? bytes[i] : NONE;
        }

        void writeMarking(Marking marking) {
            length = 0;
            for (int place = 0; place < PLACES; place++) {
                if (marking.count(place) == 0) {
                    continue;
                }
                if (length > 0) {
                    write(' ');
                }
                write('P');
                writeNumber(place);
                for (int i = 0; i < marking.count(place); i++) {
                    write(i == 0 ? '=' : ',');
                    writeNumber(marking.at(place, i));
                }
            }
        }

        void writeRule(Rule rule) {
            length = 0;
            for (int clause = 0; clause < rule.clauses; clause++) {
                if (clause > 0) {
                    write(';');
                }
                writeClause(rule, clause);
            }
        }

        private void writeClause(Rule rule, int clause) {
            int kind = rule.kind(clause);
            writeText(wordOf(kind));
            write(' ');
            if (kind != IF) {
                writeNumber(rule.place(clause));
            }
            if (kind == IN) {
                write(' ');
                write('x' + rule.name(clause));
            }
            if (kind == OUT) {
                write(' ');
            }
            if (kind == OUT || kind == IF) {
                writeCode(rule, rule.begin(clause), rule.end(clause));
            }
        }

        /** Each piece that is whole so far has its start and how tightly it holds; a sign makes one of two. */
        private void writeCode(Rule rule, int begin, int end) {
            int pieces = 0;
            for (int at = begin; at < end; at++) {
                int item = rule.item(at);
                if (item >= SIGNED) {
                    if (pieces >= 2) {
                        joinPieces(pieces - 2, pieces - 1, item - SIGNED);
                        pieces--;
                    }
                } else if (pieces < TAPE_ROOM) {
                    starts[pieces] = length;
                    holds[pieces] = ALONE;
                    pieces++;
                    writeItem(item);
                }
            }
        }

        private void writeItem(int item) {
            if (item >= NAMED) {
                write('x' + item - NAMED);
            } else {
                writeNumber(item);
            }
        }

        /** The right one keeps brackets also if it holds no tighter than the sign: signs are read from the left. */
        private void joinPieces(int left, int right, int sign) {
            if (left < 0 || right < 0 || left >= TAPE_ROOM || right >= TAPE_ROOM) {
                return;
            }
            int hold = holdOf(sign);
            if (holds[right] <= hold) {
                insert(starts[right], '(');
                write(')');
            }
            insert(starts[right], sign);
            if (holds[left] < hold) {
                insert(starts[right], ')');
                insert(starts[left], '(');
            }
            holds[left] = hold;
        }

        private static int holdOf(int sign) {
            switch (sign) {
                case '&':
                    return JOINS;
                case '+':
                case '-':
                    return ADDS;
                case '*':
                    return MULTIPLIES;
                default:
                    return COMPARES;
            }
        }

        private void write(int letter) {
            if (length < PAPER_ROOM) {
                bytes[length] = letter;
                length++;
            }
        }

        private void insert(int place, int letter) {
            if (place < 0 || place > length || length >= PAPER_ROOM) {
                return;
            }
            for (int at = length; at > place; at--) {
                bytes[at] = bytes[at - 1];
            }
            bytes[place] = letter;
            length++;
        }

        private void writeText(String text) {
            for (int i = 0; i < text.length(); i++) {
                write(text.charAt(i));
            }
        }

        /** Numbers here are 0 to 99. */
        private void writeNumber(int number) {
            if (number >= 10) {
                write('0' + number / 10);
            }
            write('0' + number % 10);
        }
    }

    /** What a RULE can do in a MARKING: its BINDINGS, and what is when its PART has gone. */
    private static final class Firing {
        private final int[] chosen, tokens, stack;

        Firing() {
            chosen = new int[TAKES];
            tokens = new int[NAMES];
            stack = new int[TAPE_ROOM];
        }

        int chosenFor(int take) {
            return take >= 0 && take < TAKES ? chosen[take] : NONE;
        }

        int countBindings(Rule rule, Marking marking) {
            return bindFrom(rule, marking, 0, false);
        }

        /** If there is a BINDING, chosen and tokens are those of the first one then. */
        boolean bindFirst(Rule rule, Marking marking) {
            return bindFrom(rule, marking, 0, true) > 0;
        }

        /** Whether the PART with this RULE, if any, can go; into, which must be another MARKING, is what is then. */
        boolean goes(Rule rule, Marking from, Marking into) {
            if (rule == null || bindFrom(rule, from, 0, true) == 0) {
                return false;
            }
            copyLeft(rule, from, into);
            for (int give = 0; give < rule.gives; give++) {
                int clause = rule.giveClause(give);
                int token = Math.floorMod(value(rule, clause), TOKENS);
                if (!into.append(rule.place(clause), token)) {
                    return false;
                }
            }
            return true;
        }

        /** Tries tokens in order, take by take, so that the first BINDING comes first; the depth is take. */
        private int bindFrom(Rule rule, Marking marking, int take, boolean onlyFirst) {
            if (take >= rule.takes || take >= TAKES) {
                return conditionsHold(rule) ? 1 : 0;
            }
            int clause = rule.takeClause(take);
            int place = rule.place(clause);
            int name = rule.name(clause);
            int count = 0;
            for (int i = 0; i < marking.count(place); i++) {
                if (name < 0 || name >= NAMES || !isFree(rule, marking, take, i)) {
                    continue;
                }
                chosen[take] = i;
                tokens[name] = marking.at(place, i);
                count += bindFrom(rule, marking, take + 1, onlyFirst);
                if (onlyFirst && count > 0) {
                    break;
                }
            }
            return count;
        }

        /** Whether the takes ahead have not this very token, and none of the same NAME has an unlike one. */
        private boolean isFree(Rule rule, Marking marking, int take, int i) {
            int mine = rule.takeClause(take);
            int token = marking.at(rule.place(mine), i);
            for (int ahead = 0; ahead < take && ahead < TAKES; ahead++) {
                int other = rule.takeClause(ahead);
                if (rule.place(other) == rule.place(mine) && chosen[ahead] == i) {
                    return false;
                }
                if (rule.name(other) == rule.name(mine)
                        && marking.at(rule.place(other), chosen[ahead]) != token) {
                    return false;
                }
            }
            return true;
        }

        private boolean conditionsHold(Rule rule) {
            for (int clause = 0; clause < rule.clauses; clause++) {
                if (rule.kind(clause) == IF && value(rule, clause) == 0) {
                    return false;
                }
            }
            return true;
        }

        private void copyLeft(Rule rule, Marking from, Marking into) {
            into.wipe();
            for (int place = 0; place < PLACES; place++) {
                if ((rule.emptied >> place & 1) == 1) {
                    continue;
                }
                for (int i = 0; i < from.count(place); i++) {
                    if (!isTaken(rule, place, i)) {
                        into.append(place, from.at(place, i));
                    }
                }
            }
        }

        private boolean isTaken(Rule rule, int place, int i) {
            for (int take = 0; take < rule.takes && take < TAKES; take++) {
                if (rule.place(rule.takeClause(take)) == place && chosen[take] == i) {
                    return true;
                }
            }
            return false;
        }

        private int value(Rule rule, int clause) {
            int top = 0;
            for (int at = rule.begin(clause); at < rule.end(clause); at++) {
                int item = rule.item(at);
                if (item >= SIGNED) {
                    if (top >= 2) {
                        stack[top - 2] = result(item - SIGNED, stack[top - 2], stack[top - 1]);
                        top--;
                    }
                } else if (top < TAPE_ROOM) {
                    boolean isNumber = item < NAMED || item >= NAMED + NAMES;
                    stack[top] = isNumber ? item : tokens[item - NAMED];
                    top++;
                }
            }
            return stack[0];
        }

        private static int result(int sign, int left, int right) {
            switch (sign) {
                case '+':
                    return left + right;
                case '-':
                    return left - right;
                case '*':
                    return left * right;
                case '<':
                    return left < right ? 1 : 0;
                case '>':
                    return left > right ? 1 : 0;
                case '=':
                    return left == right ? 1 : 0;
                default:
                    return left & right;
            }
        }
    }

    /** WALKS from a MARKING: what is found, by which PART from which, and the LEADS. */
    private static final class Walks {
        private final Marking[] found;
        private final Marking next;
        private final int[] parents, parts, able, leads;
        private final boolean[] ending;
        private int count;

        Walks() {
            found = new Marking[MOST_FOUND];
            for (int i = 0; i < MOST_FOUND; i++) {
                found[i] = new Marking();
            }
            next = new Marking();
            parents = new int[MOST_FOUND];
            parts = new int[MOST_FOUND];
            able = new int[MOST_FOUND];
            leads = new int[MOST_FOUND * PARTS];
            ending = new boolean[MOST_FOUND];
        }

        void search(Marking now, Rule[] rules, Firing firing) {
            found[0].copy(now);
            parents[0] = NONE;
            parts[0] = NONE;
            count = 1;
            for (int from = 0; from < count && from < MOST_FOUND; from++) {
                able[from] = 0;
                for (int part = 0; part < PARTS && part < rules.length; part++) {
                    leads[from * PARTS + part] = NONE;
                    if (firing.goes(rules[part], found[from], next)) {
                        able[from] |= 1 << part;
                        leads[from * PARTS + part] = numberOfNext(from, part);
                    }
                }
            }
        }

        /** The number of next, which is found now if it wasn't and there is room; NONE if there isn't. */
        private int numberOfNext(int from, int part) {
            for (int i = 0; i < count && i < MOST_FOUND; i++) {
                if (found[i].isLike(next)) {
                    return i;
                }
            }
            if (count >= MOST_FOUND) {
                return NONE;
            }
            found[count].copy(next);
            parents[count] = from;
            parts[count] = part;
            count++;
            return count - 1;
        }

        int among(int n) {
            return Math.min(n, Math.min(count, MOST_FOUND));
        }

        int countIn(int marking, int place) {
            return marking >= 0 && marking < count && marking < MOST_FOUND ? found[marking].count(place) : 0;
        }

        int fullest(int place, int n) {
            int most = 0;
            for (int i = 0; i < among(n); i++) {
                most = Math.max(most, countIn(i, place));
            }
            return most;
        }

        int ableSomewhere(int n) {
            int parts = 0;
            for (int i = 0; i < among(n); i++) {
                parts |= able[i];
            }
            return parts;
        }

        int countEnds(int n) {
            int ends = 0;
            for (int i = 0; i < among(n); i++) {
                if (countIn(i, LAST_PLACE) > 0) {
                    ends++;
                }
            }
            return ends;
        }

        int firstStuck(int n) {
            int limit = among(n);
            for (int i = 0; i < limit; i++) {
                ending[i] = countIn(i, LAST_PLACE) > 0;
            }
            for (int round = 0; round < limit; round++) {
                if (!spreadEnding(limit)) {
                    break;
                }
            }
            for (int i = 0; i < limit; i++) {
                if (!ending[i]) {
                    return i;
                }
            }
            return NOTHING;
        }

        private boolean spreadEnding(int limit) {
            boolean spread = false;
            for (int i = 0; i < limit; i++) {
                if (!ending[i] && leadsToEnding(i, limit)) {
                    ending[i] = true;
                    spread = true;
                }
            }
            return spread;
        }

        private boolean leadsToEnding(int marking, int limit) {
            for (int part = 0; part < PARTS; part++) {
                int to = leads[marking * PARTS + part];
                if (to >= 0 && to < limit && ending[to]) {
                    return true;
                }
            }
            return false;
        }

        int steps(int marking) {
            int steps = 0;
            int at = marking;
            for (int guard = 0; guard < MOST_FOUND && at > 0 && at < MOST_FOUND; guard++) {
                at = parents[at];
                steps++;
            }
            return steps;
        }

        /** The PART of the WALK to a MARKING that has so many others of it behind. */
        int step(int marking, int behind) {
            int at = marking;
            for (int i = 0; i < behind && at > 0 && at < MOST_FOUND; i++) {
                at = parents[at];
            }
            return at > 0 && at < MOST_FOUND ? parts[at] : NONE;
        }
    }

    /**
     * INVARIANTS. The CHANGES, a row for each PART, are cleared as equations are, by whole numbers: each
     * row is kept divided by what divides all of it, so that its numbers stay parts of small determinants.
     */
    private static final class Balance {
        private final long[] rows;
        private final int[] leaders;
        private long above, below;

        Balance() {
            rows = new long[PARTS * PLACES];
            leaders = new int[PLACES];
        }

        void solve(Rule[] rules) {
            for (int part = 0; part < PARTS && part < rules.length; part++) {
                for (int place = 0; place < PLACES; place++) {
                    rows[part * PLACES + place] = rules[part] == null ? 0 : rules[part].changeOf(place);
                }
            }
            int done = 0;
            for (int place = 0; place < PLACES; place++) {
                int row = rowWith(place, done);
                leaders[place] = NONE;
                if (row == NONE) {
                    continue;
                }
                swapRows(row, done);
                clearOthers(done, place);
                leaders[place] = done;
                done++;
            }
        }

        private int rowWith(int place, int from) {
            for (int row = from; row < PARTS; row++) {
                if (rows[row * PLACES + place] != 0) {
                    return row;
                }
            }
            return NONE;
        }

        private void swapRows(int one, int other) {
            for (int place = 0; place < PLACES; place++) {
                long kept = rows[one * PLACES + place];
                rows[one * PLACES + place] = rows[other * PLACES + place];
                rows[other * PLACES + place] = kept;
            }
        }

        private void clearOthers(int leader, int place) {
            for (int row = 0; row < PARTS; row++) {
                if (row != leader && rows[row * PLACES + place] != 0) {
                    clearRow(row, leader, place);
                    shortenRow(row);
                }
            }
        }

        private void clearRow(int row, int leader, int place) {
            long mine = rows[row * PLACES + place];
            long its = rows[leader * PLACES + place];
            for (int at = 0; at < PLACES; at++) {
                rows[row * PLACES + at] = rows[row * PLACES + at] * its - rows[leader * PLACES + at] * mine;
            }
        }

        private void shortenRow(int row) {
            long divisor = 0;
            for (int at = 0; at < PLACES; at++) {
                divisor = commonDivisor(divisor, rows[row * PLACES + at]);
            }
            if (divisor <= 1) {
                return;
            }
            for (int at = 0; at < PLACES; at++) {
                rows[row * PLACES + at] = rows[row * PLACES + at] / divisor;
            }
        }

        private static long commonDivisor(long one, long other) {
            long a = Math.abs(one);
            long b = Math.abs(other);
            for (int step = 0; step < 200 && b != 0; step++) {
                long rest = a % b;
                a = b;
                b = rest;
            }
            return a;
        }

        int count() {
            int count = 0;
            for (int place = 0; place < PLACES; place++) {
                if (leaders[place] == NONE) {
                    count++;
                }
            }
            return count;
        }

        /** The PLACE that is BOUND and has 1 in an INVARIANT; NONE if there is no such INVARIANT. */
        int placeOf(int invariant) {
            int number = 0;
            for (int place = 0; place < PLACES; place++) {
                if (leaders[place] != NONE) {
                    continue;
                }
                if (number == invariant) {
                    return place;
                }
                number++;
            }
            return NONE;
        }

        /** above and below become what the INVARIANT of a PLACE that is BOUND has for a PLACE. */
        void weigh(int free, int place) {
            if (!isPlace(free) || !isPlace(place)) {
                setFraction(0, 1);
                return;
            }
            int row = leaders[place];
            if (row < 0 || row >= PARTS) {
                setFraction(free == place ? 1 : 0, 1);
                return;
            }
            setFraction(-rows[row * PLACES + free], rows[row * PLACES + place]);
        }

        /** above and below become the sum of the INVARIANT over the TOKENS of a MARKING. */
        void addUp(int free, Marking marking) {
            long over = 0;
            long under = 1;
            for (int place = 0; place < PLACES; place++) {
                weigh(free, place);
                setFraction(over * below + above * marking.count(place) * under, under * below);
                over = above;
                under = below;
            }
        }

        private void setFraction(long over, long under) {
            long divisor = commonDivisor(over, under);
            if (divisor == 0 || under == 0) {
                above = 0;
                below = 1;
                return;
            }
            long sign = under < 0 ? -1 : 1;
            above = sign * (over / divisor);
            below = sign * (under / divisor);
        }
    }

    /** THE IMAGE. */
    private static final class Image {
        private final Marking marking;
        private final Rule[] rules;
        private int went;
        private boolean taken;

        Image() {
            marking = new Marking();
            rules = new Rule[PARTS];
        }

        void keep(Marking now, Rule[] nowRules, int nowWent) {
            marking.copy(now);
            for (int part = 0; part < PARTS && part < nowRules.length; part++) {
                rules[part] = nowRules[part];
            }
            went = nowWent;
            taken = true;
        }

        void giveBack(Marking now, Rule[] nowRules) {
            now.copy(marking);
            for (int part = 0; part < PARTS && part < nowRules.length; part++) {
                nowRules[part] = rules[part];
            }
        }
    }
}
