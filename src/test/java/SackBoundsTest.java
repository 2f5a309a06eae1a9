/** Bounds of sacks and turns: promises 17 and 18. */
public final class SackBoundsTest {
    private static final Check CHECK = new Check("SackBoundsTest");
    private static final int[] FAR = {Integer.MIN_VALUE, Integer.MIN_VALUE + 1, -9, -2, 32, Integer.MAX_VALUE};

    public static void main(String[] args) {
        sackOfNothing();
        sackOfAll();
        sackOfOne();
        sackNone();
        sackByTruth();
        fewestThings();
        leastOneSide();
        leastOtherSide();
        sackBad();
        turnsWithoutThings();
        turnsStopAtOnce();
        turnsStopAsAllAreOn();
        turnsStopByTheOther();
        turnsOverFigures();
        turnsAtTheirBest();
        CHECK.end();
    }

    private static void sack(SelfScale x, int weight, int things, int one, int other) {
        CHECK.due("sack(" + weight + ", 0)", x.sack(weight, 0), things);
        CHECK.due("sack(" + weight + ", 1)", x.sack(weight, 1), one);
        CHECK.due("sack(" + weight + ", 2)", x.sack(weight, 2), other);
    }

    private static void none(SelfScale x, int weight) {
        sack(x, weight, SelfScale.NONE, SelfScale.NONE, SelfScale.NONE);
    }

    private static void sackOfNothing() {
        CHECK.of("A SACK of a weight (0 .. 27): 0");
        sack(new SelfScale(), 0, 0, 0, 0);
        sack(Check.market("thing 5;"), 0, 0, 0, 0);
        // Like things on both sides would do, too, but are more.
        sack(Check.market("thing 5;thing 5;thing 5;own 9;"), 0, 0, 0, 0);
    }

    private static void sackOfAll() {
        CHECK.of("A SACK of a weight (0 .. 27): 27");
        SelfScale x = Check.market("thing 9;thing 9;thing 9;own 9;");
        sack(x, 27, 3, 7, 0);
        none(x, 26);
        sack(x, 18, 2, 3, 0);
        sack(x, 9, 1, 1, 0);
        SelfScale y = Check.market("thing 9;thing 9;thing 8;own 9;");
        none(y, 27);
        sack(y, 26, 3, 7, 0);
    }

    private static void sackOfOne() {
        CHECK.of("A SACK: some THINGS to one side, some to the other");
        SelfScale x = Check.market("thing 1;own 9;");
        sack(x, 1, 1, 1, 0);
        none(x, 2);
        SelfScale y = Check.market("thing 9;thing 1;");
        sack(y, 8, 2, 1, 2);
        sack(y, 10, 2, 3, 0);
        // The one side weighs more, though it has the greater bits.
        sack(Check.market("thing 1;thing 9;"), 8, 2, 2, 1);
    }

    private static void sackNone() {
        CHECK.of("A SACK; NONE");
        for (int weight = 1; weight <= 27; weight++) {
            none(new SelfScale(), weight);
            if (weight != 5) {
                none(Check.market("thing 5;own 4;"), weight);
            }
        }
    }

    private static void sackByTruth() {
        CHECK.of("(By what all truly weigh.)");
        SelfScale x = Check.market("thing 5;own 2;");
        x.tell(1, 3, 0);
        x.tell(0, 0, 0);
        sack(x, 5, 1, 1, 0);
        none(x, 3);
        CHECK.due("byTurns()", x.byTurns(), 7);
        x.tell(0, 1, 0);
        sack(x, 5, 1, 1, 0);
        CHECK.due("byTurns(), none could be", x.byTurns(), 7);
    }

    private static void fewestThings() {
        CHECK.of("the fewest THINGS");
        sack(Check.market("thing 1;thing 1;thing 2;"), 2, 1, 4, 0);
        sack(Check.market("thing 1;thing 2;thing 3;"), 3, 1, 4, 0);
        sack(Check.market("thing 9;thing 3;thing 6;"), 3, 1, 2, 0);
        // Three only where two are too few.
        sack(Check.market("thing 1;thing 2;thing 4;"), 7, 3, 7, 0);
        sack(Check.market("thing 1;thing 2;thing 4;"), 5, 2, 5, 0);
    }

    private static void leastOneSide() {
        CHECK.of("of several the least bits of the one side");
        sack(Check.market("thing 5;thing 5;thing 5;"), 5, 1, 1, 0);
        sack(Check.market("thing 5;thing 5;thing 5;"), 10, 2, 3, 0);
        sack(Check.market("thing 1;thing 5;thing 5;"), 4, 2, 2, 1);
        // 1 against 2 comes ahead of 2 and 4 together.
        sack(Check.market("thing 9;thing 3;thing 3;"), 6, 2, 1, 2);
    }

    private static void leastOtherSide() {
        CHECK.of("then of the other");
        sack(Check.market("thing 9;thing 4;thing 4;"), 5, 2, 1, 2);
        sack(Check.market("thing 4;thing 9;thing 4;"), 5, 2, 2, 1);
        sack(Check.market("thing 4;thing 4;thing 9;"), 5, 2, 4, 1);
    }

    private static void sackBad() {
        CHECK.of("Promise 17: BAD");
        for (Refusals.Start start : new Refusals.Start[] {Refusals::busy, Refusals::fresh}) {
            Refusals refusals = new Refusals(CHECK, start);
            for (int what = 0; what <= 2; what++) {
                int of = what;
                refusals.bad("sack(weight, " + what + ")", (x, weight) -> x.sack(weight, of), FAR);
                refusals.bad("sack(weight, " + what + ")", (x, weight) -> x.sack(weight, of), -1, 28);
            }
            // Of a weight that there is, and of one that there isn't.
            refusals.bad("sack(0, what)", (x, what) -> x.sack(0, what), FAR);
            refusals.bad("sack(0, what)", (x, what) -> x.sack(0, what), -1, 3);
            refusals.bad("sack(27, what)", (x, what) -> x.sack(27, what), -1, 3);
        }
    }

    private static void turns(String text, int want) {
        CHECK.due("byTurns of '" + text + "'", Check.market(text).byTurns(), want);
    }

    private static void turnsWithoutThings() {
        CHECK.of("BY TURNS: all THINGS come onto THE SCALE: none");
        CHECK.due("byTurns()", new SelfScale().byTurns(), 0);
        turns("own 9;", 9);
        turns("own 7;figures 7;", 0);
    }

    private static void turnsStopAtOnce() {
        CHECK.of("or as one who has the turn says so ahead of its choice: the first one");
        turns("thing 9;own 9;", 9);
        turns("thing 8;own 2;", 2);
        turns("thing 7;own 2;", 9);
        turns("thing 5;thing 5;", 0);
        turns("thing 1;thing 1;own 3;figures 5;", 3);
    }

    private static void turnsStopAsAllAreOn() {
        CHECK.of("it stops as all are on it");
        turns("thing 5;", 5);
        turns("thing 1;own 8;", 9);
        // Whichever comes first, the other one lays the last: 17 shows 7.
        turns("thing 9;thing 8;", 7);
        // 9, 18, 7, 16 are shown one behind the other: the first one lays the last, so the other one gets no less.
        turns("thing 9;thing 9;thing 9;own 9;figures 20;", 16);
    }

    private static void turnsStopByTheOther() {
        CHECK.of("or as one who has the turn says so ahead of its choice: the other one");
        turns("thing 2;thing 5;", 5);
        turns("thing 1;thing 1;", 1);
        turns("thing 5;thing 5;thing 5;own 9;figures 20;", 14);
        turns("thing 4;thing 4;own 1;figures 20;", 5);
        turns("thing 1;thing 2;thing 3;figures 20;", 3);
    }

    private static void turnsOverFigures() {
        CHECK.of("what it SHOWS then (nobody laughs)");
        turns("thing 1;own 9;", 9);
        turns("thing 9;own 1;", 1);
        turns("thing 9;own 0;figures 9;", 0);
        turns("thing 9;own 1;figures 9;", 1);
        turns("thing 1;figures 2;", 1);
        turns("thing 1;own 1;figures 2;", 1);
        turns("thing 1;thing 1;figures 2;", 0);
    }

    private static void turnsAtTheirBest() {
        CHECK.of("the first one wants more, the other one less: what comes of it, both at their best");
        turns("thing 9;thing 9;thing 9;own 9;figures 2;", 1);
        turns("thing 1;thing 1;thing 1;", 1);
        // 9 comes first: of the 2 or 6 that the other one could make, the first one would make 9 again by the last.
        turns("thing 7;thing 3;thing 9;", 9);
        // With 4 more the last makes 3 of all: it stops at once.
        turns("thing 7;thing 3;thing 9;own 4;", 4);
    }
}
