import java.util.List;

/** Every call with numbers at, about and far from its boundaries, in several states, against the model. */
final class ExtremesTest {
    private static final int LEAST = Integer.MIN_VALUE;
    private static final int MOST = Integer.MAX_VALUE;
    private static final int[] TEN = {LEAST, -2, -1, 0, 1, 5, 9, 10, 11, MOST};
    private static final int[] TOKEN = {LEAST, -1, 0, 1, 99, 100, MOST};
    private static final int[] NUMBER = {LEAST, -2, -1, 0, 1, 2, 3, 5, 6, 7, MOST};
    private static final int[] LETTER = {LEAST, -1, 0, 1, ' ', 'i', 127, 128, 255, MOST};
    private static final int[] PAPER = {LEAST, -2, -1, 0, 1, 4, 5, 79, 80, 81, 208, 209, 210, 255, 256, 257, MOST};
    private static final int[] SET = {LEAST, -1, 0, 1, 6, 512, 1022, 1023, 1024, 1025, MOST};
    private static final int[] TIMES = {LEAST, -1, 0, 1, 2, 7, 199, 200, 201, MOST};
    private static final int[] BOUND = {LEAST, -1, 0, 1, 2, 3, 59, 60, 61, MOST};
    private static final int[] MARKING = {LEAST, -1, 0, 1, 2, 3, 4, 58, 59, 60, 61, MOST};
    private static final int[] STEP = {LEAST, -2, -1, 0, 1, 2, 57, 58, 59, 60, MOST};
    private static final int[] NONE = {0};

    /** What makes a state, from a new object on. */
    private interface State {
        void make(Both both);
    }

    private final Check check = new Check();

    public static void main(String[] args) {
        ExtremesTest test = new ExtremesTest();
        test.all("a new object", both -> { });
        test.all("full places", ExtremesTest::fullPlaces);
        test.all("a net that goes on and on", ExtremesTest::endless);
        test.all("a net with an end", ExtremesTest::ending);
        test.all("a full tape", ExtremesTest::fullTape);
        test.check.end();
    }

    private static void fullPlaces(Both both) {
        for (int place = 0; place <= 9; place++) {
            both.put(place, 99, 98, 97, 99, 98, 10);
        }
        both.rule(0, "in 0 x;in 1 y;in 2 z;out 0 x;out 1 y;out 2 z+1");
        both.rule(5, "in 5 x;out 9 x");
        both.rule(9, "in 9 x;in 9 x;empty 5;empty 9;out 9 0-x");
        both.call("line");
        both.call("image");
    }

    private static void endless(Both both) {
        both.rule(1, "in 0 x;out 0 x+1");
        both.rule(9, "in 0 x;if x>50;out 0 x-50;out 9 99*99*99*99*99");
        both.put(0, 98);
        both.call("go", 1);
        both.call("spell", 9);
        both.feed("in 5 y");
    }

    private static void ending(Both both) {
        both.rule(0, "in 0 x;in 0 y;if x<y&y<9;out 1 y-x;out 1 x*y");
        both.rule(1, "in 1 x;out 9 x;empty 2");
        both.rule(2, "in 0 x;out 2 x;out 2 x");
        both.rule(9, "in 2 x;in 2 x;in 2 x;out 9 5");
        both.put(0, 5, 2, 7);
        both.call("image");
        both.call("go", 2);
        both.feed("out 1 5;in 4 z;");
        both.call("line");
    }

    private static void fullTape(Both both) {
        both.rule(9, EdgesOfTexts.LONGEST);
        both.call("spell", 9);
        both.feed(EdgesOfTexts.LONGEST);
    }

    private void all(String name, State state) {
        check.about(name);
        asking(state);
        changing(state, "put", TEN, TOKEN);
        changing(state, "take", TEN, NUMBER);
        changing(state, "feed", LETTER, NONE);
        for (String call : List.of("clear", "line", "image", "undo")) {
            changing(state, call, NONE, NONE);
        }
        for (String call : List.of("rule", "drop", "spell", "go")) {
            changing(state, call, TEN, NONE);
        }
    }

    /** Calls that change nothing: all on one object, as far as it goes. */
    private void asking(State state) {
        Both both = new Both(check);
        state.make(both);
        each(both, "token", TEN, NUMBER, NONE);
        each(both, "has", TEN, NUMBER, NONE);
        each(both, "paper", PAPER, NONE, NONE);
        each(both, "can", TEN, NONE, NONE);
        each(both, "bound", TEN, NUMBER, NONE);
        each(both, "bindings", TEN, NONE, NONE);
        each(both, "all", NONE, NONE, NONE);
        each(both, "again", SET, TIMES, NONE);
        each(both, "last", SET, TIMES, TEN);
        for (String call : List.of("reach", "dead", "ends", "stuck")) {
            each(both, call, BOUND, NONE, NONE);
        }
        each(both, "most", TEN, BOUND, NONE);
        each(both, "walk", BOUND, MARKING, STEP);
        each(both, "held", BOUND, MARKING, TEN);
        each(both, "change", TEN, TEN, NONE);
        each(both, "invariants", NONE, NONE, NONE);
        each(both, "weight", TEN, TEN, NUMBER);
        each(both, "sum", TEN, NUMBER, NONE);
        each(both, "told", NUMBER, NONE, NONE);
        both.whole();
    }

    private static void each(Both both, String call, int[] first, int[] second, int[] third) {
        for (int a : first) {
            for (int b : second) {
                for (int c : third) {
                    both.call(call, a, b, c);
                }
            }
        }
    }

    /** Calls that change something: each on its own object, and what that tells of itself then. */
    private void changing(State state, String call, int[] first, int[] second) {
        for (int a : first) {
            for (int b : second) {
                Both both = new Both(check);
                state.make(both);
                both.call(call, a, b);
                both.whole();
            }
        }
    }
}
