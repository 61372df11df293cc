/** Boundary cases of changes and invariants, and promises 27 to 30. */
final class EdgesOfSums {
    private static final int[] NO_SIDES = {-1, 2, 3, Integer.MIN_VALUE, Integer.MAX_VALUE};

    static void tell(Sentences sentences) {
        sentences.of("==== 3");
        sentences.holds("how many GIVES less how many TAKES of that PLACE the RULE has (EMPTIES aside).", EdgesOfSums::changes);
        sentences.holds("so that for each PART with a RULE the CHANGES times them, added up, are 0", EdgesOfSums::addedUp);
        sentences.holds("by PLACES from 0 on, a PLACE is BOUND to those ahead", EdgesOfSums::fromNoughtOn);
        sentences.holds("sums of fractions times those of PLACES ahead that are not BOUND", EdgesOfSums::ofThoseNotBound);
        sentences.holds("one INVARIANT for each PLACE that is BOUND", EdgesOfSums::oneForEach);
        sentences.holds("1 for it, 0 for all other BOUND ones, and for those not BOUND what it must be then.",
                EdgesOfSums::oneAndNoughts);
        sentences.of("## What it is");
        sentences.holds("sums over places that no part changes, by exact fractions", EdgesOfSums::exactFractions);
        sentences.of("Said once more.");
        sentences.holds("A PLACE that no RULE changes is BOUND, its sum having none of the others.", EdgesOfSums::unchanged);
        sentences.of("## Promise 27:");
        sentences.holds("CHANGE.", EdgesOfSums::change);
        sentences.holds("NONE: either", EdgesOfSums::changeNone);
        sentences.holds("STATE: no RULE.", EdgesOfSums::changeState);
        sentences.of("## Promise 28:");
        sentences.holds("How many INVARIANTS there are.", EdgesOfSums::howMany);
        sentences.of("## Promise 29:");
        sentences.holds("(0 the first by the PLACES that are BOUND)", EdgesOfSums::firstByPlaces);
        sentences.holds("part 0 above, 1 below the line", EdgesOfSums::aboveAndBelow);
        sentences.holds("(in lowest terms, below 1 or more)", EdgesOfSums::lowestTerms);
        sentences.holds("NO: no such one, place, part.", EdgesOfSums::weightNone);
        sentences.of("## Promise 30:");
        sentences.holds("An INVARIANT's fractions times how many TOKENS the PLACES have, added up", EdgesOfSums::sum);
        sentences.holds("part 0 above, 1 below the line.", EdgesOfSums::sumAboveAndBelow);
        sentences.holds("NONE: no such one, part.", EdgesOfSums::sumNone);
    }

    /** The weights of an invariant, each as above/below. */
    private static String weights(TokenNet net, int invariant) {
        StringBuilder text = new StringBuilder();
        for (int place = 0; place <= 9; place++) {
            long above = net.weight(invariant, place, 0);
            long below = net.weight(invariant, place, 1);
            text.append(place == 0 ? "" : " ").append(above).append(below == 1 ? "" : "/" + below);
        }
        return text.toString();
    }

    private static String sum(TokenNet net, int invariant) {
        return net.sum(invariant, 0) + "/" + net.sum(invariant, 1);
    }

    private static void changes(Check check) {
        TokenNet net = Check.with("in 0 x;in 0 y;in 0 z", "in 0 x;out 1 1;out 1 1;out 1 1", "in 0 x;in 0 y;out 0 x",
                "in 0 x;out 0 x;empty 0;empty 1", "in 0 x;empty 0;empty 9;empty 9");
        int[][] want = {{-3, 0, 0}, {-1, 3, 0}, {-1, 0, 0}, {0, 0, 0}, {-1, 0, 0}};
        for (int part = 0; part < 5; part++) {
            check.due("change(" + part + ", 0)", net.change(part, 0), want[part][0]);
            check.due("change(" + part + ", 1)", net.change(part, 1), want[part][1]);
            check.due("change(" + part + ", 9)", net.change(part, 9), want[part][2]);
        }
        Check.put(net, 1, 1, 1, 1, 1, 1, 1);
        check.due("whether it can go is all the same", net.change(1, 1), 3);
    }

    private static void addedUp(Check check) {
        TokenNet net = Check.with("in 0 x;in 0 y;out 1 x;out 2 x;out 2 y", "in 1 x;in 2 x;out 3 x", "in 3 x;in 3 y;in 4 z;out 0 x",
                "in 5 x;out 5 x", "in 6 x;in 7 x;out 8 x;out 8 x;out 9 x");
        int invariants = net.invariants();
        check.due("invariants()", invariants, 6);
        for (int invariant = 0; invariant < invariants; invariant++) {
            double[] sums = new double[5];
            for (int place = 0; place <= 9; place++) {
                double weight = (double) net.weight(invariant, place, 0) / net.weight(invariant, place, 1);
                for (int part = 0; part < 5 && weight != 0; part++) {
                    sums[part] += weight * net.change(part, place);
                }
            }
            for (int part = 0; part < 5; part++) {
                check.due("invariant " + invariant + " times part " + part, Math.abs(sums[part]) < 1e-9 ? 0 : 1, 0);
            }
        }
        Check.put(net, 0, 1, 2, 3, 4);
        Check.put(net, 4, 5);
        String[] before = {sum(net, 0), sum(net, 1)};
        net.go(0);
        net.go(1);
        check.due("sum 0 stays", sum(net, 0), before[0]);
        check.due("sum 1 stays", sum(net, 1), before[1]);
    }

    private static void fromNoughtOn(Check check) {
        TokenNet net = Check.with("in 9 x;out 0 x");
        // Place 0 is not bound, all others are; 9 is bound to 0, though the rule names it first.
        check.due("invariants()", net.invariants(), 9);
        check.due("the first is of place 1", weights(net, 0), "0 1 0 0 0 0 0 0 0 0");
        check.due("the last is of place 9", weights(net, 8), "1 0 0 0 0 0 0 0 0 1");
        Check.rule(net, 0, "in 0 x");
        check.due("place 0 has none ahead", net.invariants(), 9);
        check.due("place 0 is not bound", weights(net, 0), "0 1 0 0 0 0 0 0 0 0");
    }

    private static void ofThoseNotBound(Check check) {
        // 1 is as 0, so bound; 2 is not; 3 is 0 and 2 together: of 0 and 2, not of 1.
        TokenNet net = Check.with("in 0 x;in 1 y;in 3 z", "in 2 x;in 3 y");
        check.due("invariants()", net.invariants(), 8);
        check.due("of place 1", weights(net, 0), "-1 1 0 0 0 0 0 0 0 0");
        check.due("of place 3", weights(net, 1), "-1 0 -1 1 0 0 0 0 0 0");
        check.due("of place 4", weights(net, 2), "0 0 0 0 1 0 0 0 0 0");
        TokenNet turned = Check.with("in 2 x;in 3 y", "in 0 x;in 1 y;in 3 z");
        check.due("the parts the other way round", weights(turned, 1), "-1 0 -1 1 0 0 0 0 0 0");
        TokenNet same = Check.with("in 0 x;in 1 y", "in 0 x;in 1 y", "in 1 x;in 0 y");
        check.due("parts that change the same", same.invariants(), 9);
        check.due("of place 1 by them", weights(same, 0), "-1 1 0 0 0 0 0 0 0 0");
        // As one part alone does it, two parts do not: part by part.
        TokenNet apart = Check.with("in 0 x;in 1 y", "in 0 x;out 1 x");
        check.due("no fraction does for both parts", apart.invariants(), 8);
    }

    private static void oneForEach(Check check) {
        TokenNet net = new TokenNet();
        for (int part = 0; part <= 9; part++) {
            check.due("invariants() with " + part + " rules", net.invariants(), 10 - part);
            check.due("the last one", weights(net, 9 - part).indexOf("1") >= 0 ? 1 : 0, 1);
            check.due("one more", net.weight(10 - part, 0, 0), Long.MIN_VALUE);
            Check.rule(net, part, "in " + part + " x");
        }
        check.due("none", net.invariants(), 0);
        check.due("the first of none", net.weight(0, 0, 0), Long.MIN_VALUE);
    }

    private static void oneAndNoughts(Check check) {
        TokenNet net = Check.with("in 0 x;out 1 x;out 2 x", "in 3 x;in 3 y;out 0 x;out 0 y;out 0 1");
        // Of 0: -1, 3; of 1: 1, 0; so 1 is not bound; of 2: as 1; of 3: 0, -2.
        check.due("invariants()", net.invariants(), 8);
        check.due("of place 2", weights(net, 0), "0 -1 1 0 0 0 0 0 0 0");
        check.due("of place 3", weights(net, 1), "2/3 2/3 0 1 0 0 0 0 0 0");
        check.due("of place 9", weights(net, 7), "0 0 0 0 0 0 0 0 0 1");
    }

    private static void exactFractions(Check check) {
        TokenNet net = Check.with("in 5 x;out 1 1;out 4 1;out 4 1", "in 2 x;in 2 x;in 6 x;out 1 1",
                "in 3 x;in 3 x;in 3 x;out 8 1;out 8 1", "in 5 x;in 5 x;in 7 x", "in 6 x;in 9 x;out 1 1;out 2 1;out 3 1",
                "in 2 x;in 5 x;out 3 1;out 8 1;out 8 1", "in 5 x;in 7 x;in 8 x;out 0 1;out 0 1;out 0 1",
                "in 1 x;in 5 x;in 6 x;out 7 1;out 7 1;out 7 1", "in 0 x;in 2 x;in 4 x;out 6 1;out 6 1;out 7 1");
        check.due("of large numbers", weights(net, 0),
                "185/3382 971/1691 530/1691 101/1691 -1097/3382 -126/1691 -1/19 252/1691 303/3382 1");
        for (int place = 0; place <= 9; place++) {
            net.put(place, 1);
        }
        check.due("of one token each", sum(net, 0), "6051/3382");
        // Whole numbers that are not divided on the way would grow beyond a long here.
        TokenNet grown = Check.with("in 3 x;in 5 x;in 8 x;out 0 1;out 1 1", "in 0 x;in 7 x;in 9 x;out 1 1;out 5 1;out 5 1",
                "in 2 x;in 2 x;in 8 x;out 1 1", "in 0 x;in 2 x;in 6 x;out 5 1", "in 0 x;in 4 x;in 7 x;out 1 1;out 2 1;out 5 1",
                "in 1 x;in 1 x;in 4 x;out 0 1", "in 0 x;in 2 x;in 5 x;out 3 1;out 6 1;out 7 1",
                "in 3 x;in 3 x;in 7 x;out 0 1;out 0 1;out 4 1", "in 1 x;in 7 x;in 7 x");
        check.due("of numbers that grow", weights(grown, 0),
                "-19/44 -13/22 21/44 -9/44 3/4 8/11 15/22 13/44 -17/11 1");
        check.due("invariants()", grown.invariants(), 1);
        grown.put(0, 1);
        grown.put(9, 1);
        check.due("of two tokens", sum(grown, 0), "25/44");
    }

    private static void unchanged(Check check) {
        TokenNet net = Check.with("in 0 x;out 2 x", "in 1 x;out 1 x;empty 5");
        check.due("invariants()", net.invariants(), 9);
        check.due("of place 1, given as many as taken", weights(net, 0), "0 1 0 0 0 0 0 0 0 0");
        check.due("of place 5, only emptied", weights(net, 4), "0 0 0 0 0 1 0 0 0 0");
        check.due("of place 9, in no rule", weights(net, 8), "0 0 0 0 0 0 0 0 0 1");
        TokenNet none = new TokenNet();
        for (int place = 0; place <= 9; place++) {
            StringBuilder want = new StringBuilder("0 0 0 0 0 0 0 0 0 0");
            want.setCharAt(2 * place, '1');
            check.due("of place " + place + " without rules", weights(none, place), want.toString());
        }
    }

    private static void change(Check check) {
        TokenNet net = new TokenNet();
        Check.rule(net, 9, "in 9 x;in 9 x;in 9 x;out 0 x;out 0 x;out 0 x");
        check.due("the least", net.change(9, 9), -3);
        check.due("the greatest", net.change(9, 0), 3);
        for (int place = 1; place <= 8; place++) {
            check.due("change(9, " + place + ")", net.change(9, place), 0);
        }
        Check.rule(net, 9, "in 9 x;in 0 y;out 9 x;out 9 y");
        check.due("of another rule", net.change(9, 9), 1);
    }

    private static void changeNone(Check check) {
        TokenNet net = Check.with("in 0 x");
        for (int wrong : EdgesOfTokens.NO_PLACES) {
            check.due("change(" + wrong + ", 0)", net.change(wrong, 0), -1);
            check.due("change(0, " + wrong + ")", net.change(0, wrong), -1);
            check.due("change(1, " + wrong + ") without a rule", net.change(1, wrong), -1);
            check.due("change(" + wrong + ", " + wrong + ")", net.change(wrong, wrong), -1);
        }
    }

    private static void changeState(Check check) {
        TokenNet net = Check.with("in 0 x");
        check.due("change(1, 0)", net.change(1, 0), -3);
        check.due("change(9, 9)", net.change(9, 9), -3);
        net.drop(0);
        check.due("change(0, 0) behind drop", net.change(0, 0), -3);
    }

    private static void howMany(Check check) {
        TokenNet net = new TokenNet();
        check.due("no rules", net.invariants(), 10);
        Check.rule(net, 0, "in 0 x;out 0 x");
        check.due("a rule that changes nothing", net.invariants(), 10);
        for (int part = 0; part <= 9; part++) {
            Check.rule(net, part, "in " + (9 - part) + " x");
        }
        check.due("a rule for each place", net.invariants(), 0);
        for (int part = 0; part <= 8; part++) {
            Check.rule(net, part, "in " + (9 - part) + " x;out " + (8 - part) + " x");
        }
        check.due("a rule for each place, in a row", net.invariants(), 0);
        net.drop(9);
        check.due("a row", net.invariants(), 1);
        Check.rule(net, 9, "in 0 x;out 9 x");
        check.due("a ring", net.invariants(), 1);
    }

    private static void firstByPlaces(Check check) {
        TokenNet net = Check.with("in 2 x;out 5 x", "in 7 x;out 8 x");
        // Bound are 0, 1, 3, 4, 5, 6, 8, 9.
        int[] places = {0, 1, 3, 4, 5, 6, 8, 9};
        check.due("invariants()", net.invariants(), 8);
        for (int invariant = 0; invariant < 8; invariant++) {
            for (int other : places) {
                check.due("weight(" + invariant + ", " + other + ", 0)", net.weight(invariant, other, 0),
                        other == places[invariant] ? 1 : 0);
            }
        }
        check.due("weight(4, 2, 0)", net.weight(4, 2, 0), 1);
        check.due("weight(6, 7, 0)", net.weight(6, 7, 0), 1);
    }

    private static void aboveAndBelow(Check check) {
        TokenNet net = Check.with("in 0 x;in 0 y;in 0 z;out 1 x;out 1 y");
        check.due("2 of 2/3", net.weight(0, 0, 0), 2);
        check.due("3 of 2/3", net.weight(0, 0, 1), 3);
        check.due("above the line of 1", net.weight(0, 1, 0), 1);
        check.due("below the line of 1", net.weight(0, 1, 1), 1);
        check.due("above the line of nothing", net.weight(0, 9, 0), 0);
        check.due("below the line of nothing", net.weight(0, 9, 1), 1);
    }

    private static void lowestTerms(Check check) {
        TokenNet net = Check.with("in 0 x;in 0 y;out 1 x;out 1 y");
        check.due("2/2", weights(net, 0), "1 1 0 0 0 0 0 0 0 0");
        Check.rule(net, 0, "in 0 x;in 1 x;in 1 x");
        check.due("below it is never less than 1", weights(net, 0), "-2 1 0 0 0 0 0 0 0 0");
        Check.rule(net, 0, "in 0 x;in 0 x;in 1 y;out 3 x;out 3 x;out 3 x");
        check.due("a half less than nothing", weights(net, 0), "-1/2 1 0 0 0 0 0 0 0 0");
        check.due("three halves", weights(net, 2), "3/2 0 0 1 0 0 0 0 0 0");
        check.due("nothing is 0 above 1", net.weight(2, 2, 0) * 10 + net.weight(2, 2, 1), 1);
        TokenNet row = new TokenNet();
        for (int place = 0; place < 9; place++) {
            String next = ";out " + (place + 1) + " 1";
            Check.rule(row, place, "in " + place + " x;in " + place + " y;in " + place + " z" + next + next);
        }
        check.due("a long row", weights(row, 0), "512/19683 256/6561 128/2187 64/729 32/243 16/81 8/27 4/9 2/3 1");
    }

    private static void weightNone(Check check) {
        TokenNet net = Check.with("in 0 x");
        check.due("invariants()", net.invariants(), 9);
        check.due("the last of all", net.weight(8, 9, 1), 1);
        for (int invariant : new int[] {-1, 9, 10, Integer.MIN_VALUE, Integer.MAX_VALUE}) {
            check.due("weight(" + invariant + ", 0, 0)", net.weight(invariant, 0, 0), Long.MIN_VALUE);
            check.due("weight(" + invariant + ", 0, 1)", net.weight(invariant, 0, 1), Long.MIN_VALUE);
        }
        for (int place : EdgesOfTokens.NO_PLACES) {
            check.due("weight(0, " + place + ", 0)", net.weight(0, place, 0), Long.MIN_VALUE);
            check.due("weight(0, " + place + ", 1)", net.weight(0, place, 1), Long.MIN_VALUE);
        }
        for (int part : NO_SIDES) {
            check.due("weight(0, 0, " + part + ")", net.weight(0, 0, part), Long.MIN_VALUE);
        }
    }

    private static void sum(Check check) {
        TokenNet net = Check.with("in 0 x;in 0 y;in 0 z;out 1 x;out 1 y");
        check.due("no tokens", sum(net, 0), "0/1");
        Check.put(net, 0, 1, 1, 1, 1, 1, 1);
        check.due("2/3 six times", sum(net, 0), "4/1");
        Check.put(net, 1, 1, 1, 1, 1, 1, 1);
        check.due("and 1 six times", sum(net, 0), "10/1");
        net.take(0, 0);
        check.due("2/3 five times, and 6", sum(net, 0), "28/3");
        check.due("another one", sum(net, 1), "0/1");
        Check.put(net, 2, 99, 98, 97);
        check.due("how many, not what they are", sum(net, 1), "3/1");
        TokenNet none = new TokenNet();
        for (int place = 0; place <= 9; place++) {
            for (int count = 0; count < place % 7; count++) {
                none.put(place, 50);
            }
            none.put(0, 50);
            check.due("of place " + place + " alone", sum(none, place), (place == 0 ? 1 : place % 7) + "/1");
        }
        check.due("of place 0 when it is full", sum(none, 0), "6/1");
    }

    private static void sumAboveAndBelow(Check check) {
        TokenNet net = Check.with("in 0 x;in 1 y");
        net.put(0, 1);
        check.due("less than nothing", sum(net, 0), "-1/1");
        net.put(1, 1);
        check.due("nothing", sum(net, 0), "0/1");
        Check.rule(net, 0, "in 0 x;in 0 x;in 1 y");
        check.due("a half", sum(net, 0), "1/2");
        net.take(1, 0);
        check.due("a half less than nothing", sum(net, 0), "-1/2");
        net.put(0, 1);
        check.due("two halves", sum(net, 0), "-1/1");
        TokenNet row = new TokenNet();
        for (int place = 0; place < 9; place++) {
            String next = ";out " + (place + 1) + " 1";
            Check.rule(row, place, "in " + place + " x;in " + place + " y;in " + place + " z" + next + next);
        }
        row.put(0, 1);
        check.due("a long row", sum(row, 0), "512/19683");
        for (int place = 0; place <= 9; place++) {
            Check.put(row, place, 1, 1, 1, 1, 1, 1);
        }
        // 6 (1 - (2/3)^10) / (1 - 2/3) = 18 (59049 - 1024) / 59049.
        check.due("a long row that is full", sum(row, 0), "116050/6561");
    }

    private static void sumNone(Check check) {
        TokenNet net = Check.with("in 0 x");
        Check.put(net, 9, 1, 1);
        check.due("the last of all", sum(net, 8), "2/1");
        for (int invariant : new int[] {-1, 9, 10, Integer.MIN_VALUE, Integer.MAX_VALUE}) {
            check.due("sum(" + invariant + ", 0)", net.sum(invariant, 0), -1);
            check.due("sum(" + invariant + ", 1)", net.sum(invariant, 1), -1);
        }
        for (int part : NO_SIDES) {
            check.due("sum(0, " + part + ")", net.sum(0, part), -1);
        }
    }
}
