/** Bounds of what to weigh next, and of how few weighings make a thing sure: promises 13 and 14. */
public final class PlanBoundsTest {
    private static final Check CHECK = new Check("PlanBoundsTest");
    private static final int[] FAR = {Integer.MIN_VALUE, Integer.MIN_VALUE + 1, -9, -2, 32, Integer.MAX_VALUE};

    public static void main(String[] args) {
        nextWithoutThings();
        nextIsNeverOfNone();
        nextLeastOfSeveral();
        nextOfAll();
        nextOfNoneThatCouldBe();
        nextOfOneThatCouldBe();
        nextByFigures();
        nextBad();
        fewestOfSure();
        fewestOfNoneThatCouldBe();
        fewestOne();
        fewestByNone();
        fewestTwo();
        fewestTooFew();
        fewestWhateverIsShown();
        fewestOfEachThatCouldBe();
        fewestBad();
        CHECK.end();
    }

    private static void next(SelfScale x, String text, int set, int worst) {
        CHECK.due("next(0) of " + text, x.next(0), set);
        CHECK.due("next(1) of " + text, x.next(1), worst);
    }

    private static void nextWithoutThings() {
        CHECK.of("NEXT; NONE: no THINGS");
        next(new SelfScale(), "no things", SelfScale.NONE, SelfScale.NONE);
        SelfScale x = Check.market("own 4;");
        x.weigh(0, 0, 1);
        next(x, "no things, own known", SelfScale.NONE, SelfScale.NONE);
        x.tell(0, 5, 0);
        next(x, "no things, none could be", SelfScale.NONE, SelfScale.NONE);
        next(Check.market("thing 4;"), "one thing", 1, 9);
    }

    private static void nextIsNeverOfNone() {
        CHECK.of("NEXT: of all sets of THINGS (1 and more)");
        SelfScale x = Check.market("thing 3;figures 20;");
        x.tell(1, 5, 0);
        // Weighing none would tell the five apart.
        next(x, "a thing and own of 5", 1, 5);
        SelfScale y = Check.market("thing 3;thing 5;figures 20;");
        y.tell(1, 5, 0);
        y.tell(2, 7, 0);
        // So would it here, and both things do.
        next(y, "a thing and own of 5, another and own of 7", 3, 1);
    }

    private static void nextLeastOfSeveral() {
        CHECK.of("NEXT: of several the least");
        next(Check.market("thing 3;thing 4;"), "two things", 1, 81);
        next(Check.market("thing 3;thing 4;thing 5;"), "three things", 1, 729);
        SelfScale x = Check.market("thing 3;thing 4;thing 5;figures 20;");
        x.tell(0, 0, 0);
        x.tell(1, 3, 0);
        // Either of the two, or both, leaves 9 of 81 at worst, with the known thing or without.
        next(x, "two unknown things", 2, 9);
    }

    private static void nextOfAll() {
        CHECK.of("NEXT: by which, whatever is SHOWN (nobody laughs), the fewest COULD be left at worst");
        int[] ways = new int[20];
        int worst = 0;
        for (int world = 0; world < 7290; world++) {
            int load = world / 810 + 1 + world / 90 % 9 + 1 + world / 10 % 9 + 1 + world % 10;
            ways[load % 20]++;
            worst = Math.max(worst, ways[load % 20]);
        }
        next(Check.market("thing 3;thing 4;thing 5;figures 20;"), "all three", 7, worst);
    }

    private static void nextOfNoneThatCouldBe() {
        CHECK.of("WORST of it: how many: none COULD be");
        next(Refusals.torn(), "none could be", 1, 0);
    }

    private static void nextOfOneThatCouldBe() {
        CHECK.of("WORST of it: how many: one COULD be");
        SelfScale x = Check.market("thing 7;thing 3;thing 9;own 4;");
        x.weigh(0, 0, 1);
        x.weigh(1, 0, 1);
        x.weigh(2, 0, 1);
        next(x, "one unknown", 4, 1);
        x.weigh(4, 0, 1);
        next(x, "all known", 1, 1);
    }

    private static void nextByFigures() {
        CHECK.of("NEXT, by FIGURES");
        // Of 2 FIGURES: own is even five times, thing four times and odd five times.
        next(Check.market("thing 3;figures 2;"), "one thing by 2", 1, 45);
        next(Check.market("thing 3;figures 20;"), "one thing by 20", 1, 9);
        next(Check.market("thing 3;figures 19;"), "one thing by 19", 1, 9);
        next(Check.market("thing 3;figures 9;"), "one thing by 9", 1, 10);
    }

    private static void nextBad() {
        CHECK.of("Promise 13: BAD");
        for (Refusals.Start start : new Refusals.Start[] {Refusals::busy, Refusals::torn, Refusals::fresh}) {
            Refusals refusals = new Refusals(CHECK, start);
            refusals.bad("next(what)", SelfScale::next, FAR);
            refusals.bad("next(what)", SelfScale::next, -1, 2, 3);
        }
    }

    private static void fewestOfSure() {
        CHECK.of("FEWEST: 0: it is SURE");
        SelfScale x = Check.market("thing 7;own 4;");
        x.weigh(0, 0, 1);
        CHECK.due("fewest(3)", x.fewest(3), 0);
        CHECK.due("fewest(0)", x.fewest(0), 1);
        x.weigh(1, 0, 1);
        CHECK.due("fewest(0)", x.fewest(0), 0);
        SelfScale y = Check.market("own 0;");
        y.weigh(0, 0, 1);
        CHECK.due("fewest(3) of 0", y.fewest(3), 0);
    }

    private static void fewestOfNoneThatCouldBe() {
        CHECK.of("FEWEST: with none that COULD be: 0");
        SelfScale x = Refusals.torn();
        CHECK.due("fewest(0)", x.fewest(0), 0);
        CHECK.due("fewest(1)", x.fewest(1), 0);
        CHECK.due("fewest(3)", x.fewest(3), 0);
        // Of 2 FIGURES no weighing makes any sure: it is 0 all the same.
        SelfScale y = Check.market("thing 7;figures 2;");
        y.tell(0, 0, 0);
        y.tell(0, 1, 0);
        CHECK.due("fewest(0) by 2", y.fewest(0), 0);
        CHECK.due("fewest(3) by 2", y.fewest(3), 0);
    }

    private static void fewestOne() {
        CHECK.of("FEWEST: 1");
        SelfScale x = Check.market("thing 7;thing 2;thing 3;own 4;figures 20;");
        x.tell(0, 4, 0);
        CHECK.due("fewest(0)", x.fewest(0), 1);
        CHECK.due("fewest(1)", x.fewest(1), 1);
        CHECK.due("fewest(2)", x.fewest(2), 1);
        // The three together are known, and two of them: the third is, too.
        x.tell(7, 15, 0);
        x.tell(3, 13, 0);
        CHECK.due("fewest(2) by the others", x.fewest(2), 0);
        CHECK.due("fewest(0) by one of two", x.fewest(0), 1);
    }

    private static void fewestByNone() {
        CHECK.of("FEWEST: of THINGS, or of none");
        CHECK.due("fewest(3) of no things", new SelfScale().fewest(3), 1);
        CHECK.due("fewest(3) of three", Check.market("thing 1;thing 1;thing 1;").fewest(3), 1);
        SelfScale x = Check.market("thing 3;figures 20;");
        x.tell(1, 5, 0);
        // The thing with own shows 5 whatever it weighs.
        CHECK.due("fewest(0)", x.fewest(0), 1);
    }

    private static void fewestTwo() {
        CHECK.of("FEWEST: 2");
        for (int figures = 9; figures <= 20; figures++) {
            SelfScale x = Check.market("thing 7;thing 2;thing 3;own 4;figures " + figures + ";");
            for (int i = 0; i <= 2; i++) {
                CHECK.due("fewest(" + i + ") by " + figures, x.fewest(i), 2);
            }
        }
        CHECK.due("fewest(0) of one", Check.market("thing 9;").fewest(0), 2);
        // One object, by other FIGURES each time: nothing is left of what was asked ahead.
        SelfScale y = new SelfScale();
        for (int figures = 20; figures >= 9; figures--) {
            Check.type(y, "thing 7;figures " + figures + ";");
            y.market();
            CHECK.due("fewest(0) anew by " + figures, y.fewest(0), 2);
        }
    }

    private static void fewestTooFew() {
        CHECK.of("FEWEST: NONE: two are too few");
        for (int figures = 2; figures <= 20; figures++) {
            SelfScale x = Check.market("thing 7;own 4;figures " + figures + ";");
            CHECK.due("fewest(0) by " + figures, x.fewest(0), figures < 9 ? SelfScale.NONE : 2);
            CHECK.due("fewest(3) by " + figures, x.fewest(3), figures < 10 ? SelfScale.NONE : 1);
        }
    }

    private static void fewestWhateverIsShown() {
        CHECK.of("by which it is SURE whatever is SHOWN");
        SelfScale x = Check.market("thing 5;own 1;figures 8;");
        x.tell(0, 1, 0);
        // 1 and 9 are alike by 8, the other weights are not.
        CHECK.due("fewest(0) of 1 to 9", x.fewest(0), SelfScale.NONE);
        x.tell(1, 3, 2);
        CHECK.due("fewest(0) of 1, 2 and 9", x.fewest(0), SelfScale.NONE);
        // From 2 on own is one weight alone: just the first and the last of the worlds left are alike.
        for (int own = 0; own <= 7; own++) {
            SelfScale y = Check.market("thing 5;figures 8;");
            y.tell(0, own, 0);
            CHECK.due("fewest(0) with own " + own, y.fewest(0), SelfScale.NONE);
        }
    }

    private static void fewestOfEachThatCouldBe() {
        CHECK.of("(each that COULD be");
        SelfScale x = Check.market("thing 5;own 1;figures 8;");
        x.tell(0, 1, 0);
        x.tell(1, 4, 2);
        CHECK.due("fewest(0) of 2 and 3", x.fewest(0), 1);
        SelfScale y = Check.market("figures 9;");
        y.tell(0, 3, 2);
        CHECK.due("fewest(3) of 2 and 3", y.fewest(3), 1);
        y.undo();
        y.tell(0, 1, 2);
        CHECK.due("fewest(3) of 0, 1 and 9", y.fewest(3), SelfScale.NONE);
    }

    private static void fewestBad() {
        CHECK.of("Promise 14: BAD");
        Refusals refusals = new Refusals(CHECK, Refusals::busy);
        refusals.bad("fewest(i)", SelfScale::fewest, FAR);
        refusals.bad("fewest(i)", SelfScale::fewest, -1, 4);
        new Refusals(CHECK, Refusals::fresh).bad("fewest(i) of no things", SelfScale::fewest, -1, 0, 1, 2, 4);
        new Refusals(CHECK, Refusals::torn).bad("fewest(i) of two", SelfScale::fewest, -1, 2, 4);
    }
}
