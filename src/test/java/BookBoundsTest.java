/** Bounds of the book: weighings, told lines, lines and undone ones, promises 6 to 9. */
public final class BookBoundsTest {
    private static final Check CHECK = new Check("BookBoundsTest");
    private static final int[] FAR = {Integer.MIN_VALUE, Integer.MIN_VALUE + 1, -9, -2, -1, 32, Integer.MAX_VALUE};
    private static final String[] TEXTS = {"own 4;", "thing 7;own 4;", "thing 7;thing 3;own 4;",
        "thing 7;thing 3;thing 9;own 4;"};

    public static void main(String[] args) {
        noneAndAll();
        bitOfNoThing();
        leftOver();
        leftOverEnds();
        laughedAlone();
        linesAtMost();
        heardOrNot();
        weighBad();
        weighFull();
        weighBadAheadOfFull();
        toldEnds();
        shownBelowFigures();
        tellBad();
        tellFull();
        tellBadAheadOfFull();
        lineEnds();
        lineBad();
        undoneLatest();
        undoState();
        undoOfFull();
        CHECK.end();
    }

    private static void line(SelfScale x, int k, int set, int shown, int laugh) {
        CHECK.due("line(" + k + ", 0)", x.line(k, 0), set);
        CHECK.due("line(" + k + ", 1)", x.line(k, 1), shown);
        CHECK.due("line(" + k + ", 2)", x.line(k, 2), laugh);
    }

    private static void noneAndAll() {
        CHECK.of("A WEIGHING of some THINGS (bits; none, too)");
        int[] all = {4, 1, 4, 3};
        for (int things = 0; things <= 3; things++) {
            SelfScale x = Check.market(TEXTS[things]);
            int most = (1 << things) - 1;
            CHECK.due("weigh none of " + things, x.weigh(0, 0, 1), 4);
            CHECK.due("weigh all of " + things, x.weigh(most, 0, 1), all[things]);
            CHECK.due("tell none of " + things, x.tell(0, 0, 0), 3);
            CHECK.due("tell all of " + things, x.tell(most, 9, 0), 4);
            line(x, 0, 0, 4, 0);
            line(x, 1, most, all[things], 0);
            line(x, 2, 0, 0, 0);
            line(x, 3, most, 9, 0);
        }
    }

    private static void bitOfNoThing() {
        CHECK.of("BAD (a bit of no THING, too)");
        for (int things = 0; things <= 3; things++) {
            String text = TEXTS[things];
            Refusals refusals = new Refusals(CHECK, () -> Check.market(text));
            for (int bit = things; bit < 32; bit++) {
                refusals.bad("weigh(set, 0, 1) of " + text, (x, set) -> x.weigh(set, 0, 1), 1 << bit);
                refusals.bad("tell(set, 0, 0) of " + text, (x, set) -> x.tell(set, 0, 0), 1 << bit);
                if (things > 0) {
                    refusals.bad("weigh(set, 0, 1) of " + text, (x, set) -> x.weigh(set, 0, 1), 1 | 1 << bit);
                    refusals.bad("tell(set, 0, 0) of " + text, (x, set) -> x.tell(set, 0, 0), 1 | 1 << bit);
                }
            }
        }
    }

    private static void leftOver() {
        CHECK.of("left over by FIGURES");
        // 12 in all: below, as many as, above FIGURES, and more than once as many.
        int[] figures = {20, 14, 13, 12, 11, 7, 6, 5, 4, 3, 2};
        int[] shown = {12, 12, 12, 0, 1, 5, 0, 2, 0, 0, 0};
        int[] laughed = {13, 13, 0, 1, 2, 6, 1, 3, 1, 1, 1};
        for (int k = 0; k < figures.length; k++) {
            SelfScale x = Check.market("thing 5;thing 4;own 3;figures " + figures[k] + ";");
            CHECK.due("weigh(3, 0, 1) by " + figures[k], x.weigh(3, 0, 1), shown[k]);
            CHECK.due("weigh(3, 1, 1) by " + figures[k], x.weigh(3, 1, 1), laughed[k]);
            CHECK.due("line(0, 1) by " + figures[k], x.line(0, 1), shown[k]);
            CHECK.due("line(1, 1) by " + figures[k], x.line(1, 1), laughed[k]);
        }
    }

    private static void leftOverEnds() {
        CHECK.of("their weights, OWN and, if somebody LAUGHS, 1, added, left over by FIGURES");
        SelfScale most = Check.market("thing 9;thing 9;thing 9;own 9;figures 20;");
        CHECK.due("37 by 20", most.weigh(7, 1, 1), 17);
        CHECK.due("36 by 20", most.weigh(7, 0, 1), 16);
        CHECK.due("19 by 20", most.weigh(4, 1, 0), 19);
        SelfScale two = Check.market("thing 9;thing 9;thing 9;own 9;figures 2;");
        CHECK.due("37 by 2", two.weigh(7, 1, 1), 1);
        CHECK.due("36 by 2", two.weigh(7, 0, 1), 0);
        SelfScale least = Check.market("thing 1;figures 2;");
        CHECK.due("0 by 2", least.weigh(0, 0, 1), 0);
        CHECK.due("1 by 2", least.weigh(1, 0, 1), 1);
        CHECK.due("1 and 1 by 2", least.weigh(1, 1, 1), 0);
    }

    private static void laughedAlone() {
        CHECK.of("if somebody LAUGHS, 1");
        SelfScale x = new SelfScale();
        CHECK.due("nothing, no laugh", x.weigh(0, 0, 1), 0);
        CHECK.due("nothing, a laugh", x.weigh(0, 1, 1), 1);
        CHECK.due("nothing, a laugh not heard", x.weigh(0, 1, 0), 1);
        SelfScale y = Check.market("own 9;");
        CHECK.due("9, no laugh", y.weigh(0, 0, 0), 9);
        CHECK.due("9, a laugh", y.weigh(0, 1, 0), 0);
    }

    private static void linesAtMost() {
        CHECK.of("THE BOOK (12 LINES at most)");
        SelfScale weighed = Check.market("thing 7;");
        SelfScale told = Check.market("thing 7;");
        for (int k = 0; k < 12; k++) {
            CHECK.due("count(2) at " + k, weighed.count(2), k);
            CHECK.due("weigh " + k, weighed.weigh(1, k % 2, 1), 7 + k % 2);
            CHECK.due("tell " + k, told.tell(k % 2, k % 10, k % 3), k + 1);
        }
        for (int k = 0; k < 12; k++) {
            line(weighed, k, 1, 7 + k % 2, k % 2);
            line(told, k, k % 2, k % 10, k % 3);
        }
        CHECK.due("weigh a 13th", weighed.weigh(1, 0, 1), SelfScale.FULL);
        CHECK.due("tell a 13th", told.tell(1, 0, 1), SelfScale.FULL);
        CHECK.due("tell behind weighings", weighed.tell(1, 0, 1), SelfScale.FULL);
        CHECK.due("weigh behind told ones", told.weigh(1, 0, 1), SelfScale.FULL);
        CHECK.due("count(2)", weighed.count(2), 12);
        CHECK.due("count(2)", told.count(2), 12);
    }

    private static void heardOrNot() {
        CHECK.of("that there was none (0), that there was one (1), or nothing (2: not heard)");
        SelfScale x = Check.market("thing 7;");
        x.weigh(1, 0, 1);
        x.weigh(1, 1, 1);
        x.weigh(1, 0, 0);
        x.weigh(1, 1, 0);
        line(x, 0, 1, 7, 0);
        line(x, 1, 1, 8, 1);
        line(x, 2, 1, 7, 2);
        line(x, 3, 1, 8, 2);
    }

    private static void weighBad() {
        CHECK.of("Promise 6: BAD");
        Refusals refusals = new Refusals(CHECK, Refusals::busy);
        refusals.bad("weigh(set, 0, 1)", (x, set) -> x.weigh(set, 0, 1), FAR);
        refusals.bad("weigh(set, 0, 1)", (x, set) -> x.weigh(set, 0, 1), 8);
        refusals.bad("weigh(7, laughs, 1)", (x, laughs) -> x.weigh(7, laughs, 1), FAR);
        refusals.bad("weigh(7, laughs, 1)", (x, laughs) -> x.weigh(7, laughs, 1), 2);
        refusals.bad("weigh(7, 1, heard)", (x, heard) -> x.weigh(7, 1, heard), FAR);
        refusals.bad("weigh(7, 1, heard)", (x, heard) -> x.weigh(7, 1, heard), 2);
    }

    private static void weighFull() {
        CHECK.of("Promise 6: FULL");
        Refusals refusals = new Refusals(CHECK, Refusals::full);
        for (int set = 0; set <= 3; set++) {
            int things = set;
            refusals.due("weigh(" + set + ", 0, 1)", x -> x.weigh(things, 0, 1), SelfScale.FULL);
            refusals.due("weigh(" + set + ", 1, 0)", x -> x.weigh(things, 1, 0), SelfScale.FULL);
        }
    }

    private static void weighBadAheadOfFull() {
        CHECK.of("the first of these: BAD .., STATE .., FULL: weigh");
        Refusals refusals = new Refusals(CHECK, Refusals::full);
        refusals.bad("weigh(set, 0, 1)", (x, set) -> x.weigh(set, 0, 1), -1, 4);
        refusals.bad("weigh(3, laughs, 1)", (x, laughs) -> x.weigh(3, laughs, 1), -1, 2);
        refusals.bad("weigh(3, 1, heard)", (x, heard) -> x.weigh(3, 1, heard), -1, 2);
    }

    private static void toldEnds() {
        CHECK.of("A LINE is TOLD (shown 0 .. FIGURES less 1; laugh 0, 1, 2): how many there are");
        for (int figures = 2; figures <= 20; figures++) {
            SelfScale x = Check.market("thing 7;figures " + figures + ";");
            for (int laugh = 0; laugh <= 2; laugh++) {
                CHECK.due("tell(0, 0, " + laugh + ")", x.tell(0, 0, laugh), 2 * laugh + 1);
                CHECK.due("tell(1, " + (figures - 1) + ", " + laugh + ")", x.tell(1, figures - 1, laugh), 2 * laugh + 2);
            }
            for (int laugh = 0; laugh <= 2; laugh++) {
                line(x, 2 * laugh, 0, 0, laugh);
                line(x, 2 * laugh + 1, 1, figures - 1, laugh);
            }
        }
    }

    private static void shownBelowFigures() {
        CHECK.of("shown 0 .. FIGURES less 1");
        for (int figures = 2; figures <= 20; figures++) {
            String text = "thing 7;figures " + figures + ";";
            Refusals refusals = new Refusals(CHECK, () -> Check.market(text));
            refusals.bad(text + " tell(1, shown, 0)", (x, shown) -> x.tell(1, shown, 0), -1, figures, figures + 1, 20, 21);
        }
        // A market of fewer FIGURES, and of more.
        SelfScale x = Check.market("figures 20;");
        CHECK.due("19 of 20", x.tell(0, 19, 0), 1);
        Check.type(x, "figures 2;");
        x.market();
        CHECK.due("2 of 2", x.tell(0, 2, 0), SelfScale.BAD);
        CHECK.due("1 of 2", x.tell(0, 1, 0), 1);
        x.market();
        CHECK.due("9 of 10", x.tell(0, 9, 0), 1);
        CHECK.due("10 of 10", x.tell(0, 10, 0), SelfScale.BAD);
    }

    private static void tellBad() {
        CHECK.of("Promise 7: BAD");
        Refusals refusals = new Refusals(CHECK, Refusals::busy);
        refusals.bad("tell(set, 0, 0)", (x, set) -> x.tell(set, 0, 0), FAR);
        refusals.bad("tell(set, 0, 0)", (x, set) -> x.tell(set, 0, 0), 8);
        refusals.bad("tell(7, shown, 0)", (x, shown) -> x.tell(7, shown, 0), FAR);
        refusals.bad("tell(7, shown, 0)", (x, shown) -> x.tell(7, shown, 0), 11);
        refusals.bad("tell(7, 10, laugh)", (x, laugh) -> x.tell(7, 10, laugh), FAR);
        refusals.bad("tell(7, 10, laugh)", (x, laugh) -> x.tell(7, 10, laugh), 3);
    }

    private static void tellFull() {
        CHECK.of("Promise 7: FULL");
        Refusals refusals = new Refusals(CHECK, Refusals::full);
        for (int laugh = 0; laugh <= 2; laugh++) {
            int told = laugh;
            refusals.due("tell(0, 0, " + laugh + ")", x -> x.tell(0, 0, told), SelfScale.FULL);
            refusals.due("tell(3, 9, " + laugh + ")", x -> x.tell(3, 9, told), SelfScale.FULL);
        }
    }

    private static void tellBadAheadOfFull() {
        CHECK.of("the first of these: BAD .., STATE .., FULL: tell");
        Refusals refusals = new Refusals(CHECK, Refusals::full);
        refusals.bad("tell(set, 0, 0)", (x, set) -> x.tell(set, 0, 0), -1, 4);
        refusals.bad("tell(3, shown, 0)", (x, shown) -> x.tell(3, shown, 0), -1, 10);
        refusals.bad("tell(3, 9, laugh)", (x, laugh) -> x.tell(3, 9, laugh), -1, 3);
    }

    private static void lineEnds() {
        CHECK.of("Of a LINE: 0 THINGS (bits), 1 SHOWN, 2 its laugh (0, 1, 2)");
        SelfScale x = Check.market("thing 7;thing 3;thing 9;figures 20;");
        x.tell(0, 0, 0);
        x.tell(7, 19, 2);
        x.tell(4, 1, 1);
        line(x, 0, 0, 0, 0);
        line(x, 1, 7, 19, 2);
        line(x, 2, 4, 1, 1);
    }

    private static void lineBad() {
        CHECK.of("Promise 8: BAD");
        Refusals none = new Refusals(CHECK, Refusals::fresh);
        none.bad("line(k, 0) of none", (x, k) -> x.line(k, 0), 0, 1, 11, -1);
        Refusals refusals = new Refusals(CHECK, Refusals::busy);
        for (int what = 0; what <= 2; what++) {
            int of = what;
            refusals.bad("line(k, " + what + ")", (x, k) -> x.line(k, of), FAR);
            refusals.bad("line(k, " + what + ")", (x, k) -> x.line(k, of), 3, 11, 12);
        }
        refusals.bad("line(0, what)", (x, what) -> x.line(0, what), FAR);
        refusals.bad("line(2, what)", (x, what) -> x.line(2, what), 3);
        Refusals full = new Refusals(CHECK, Refusals::full);
        full.bad("line(k, 0) of 12", (x, k) -> x.line(k, 0), -1, 12, 13);
        CHECK.due("the 12th", Refusals.full().line(11, 0), 3);
    }

    private static void undoneLatest() {
        CHECK.of("UNDONE: the latest LINE");
        SelfScale x = Check.market("thing 7;");
        x.tell(1, 2, 1);
        x.tell(0, 3, 0);
        CHECK.due("could of both", x.could(-1, 0), 1);
        CHECK.due("undo() of two", x.undo(), 1);
        line(x, 0, 1, 2, 1);
        CHECK.due("line(1, 0)", x.line(1, 0), SelfScale.BAD);
        CHECK.due("could of the first", x.could(-1, 0), 9);
        CHECK.due("undo() of one", x.undo(), 0);
        CHECK.due("line(0, 0)", x.line(0, 0), SelfScale.BAD);
        CHECK.due("could of none", x.could(-1, 0), 90);
        CHECK.due("tell(0, 4, 2)", x.tell(0, 4, 2), 1);
        line(x, 0, 0, 4, 2);
    }

    private static void undoState() {
        CHECK.of("Promise 9: STATE: none");
        new Refusals(CHECK, Refusals::fresh).due("undo()", SelfScale::undo, SelfScale.STATE);
        Refusals undone = new Refusals(CHECK, () -> {
            SelfScale x = Refusals.busy();
            x.undo();
            x.undo();
            x.undo();
            return x;
        });
        undone.due("undo() once more", SelfScale::undo, SelfScale.STATE);
        undone.due("undo() twice more", x -> x.undo() + x.undo(), 2 * SelfScale.STATE);
    }

    private static void undoOfFull() {
        CHECK.of("how many LINES are left");
        SelfScale x = Refusals.full();
        CHECK.due("undo() of 12", x.undo(), 11);
        CHECK.due("tell", x.tell(1, 6, 1), 12);
        line(x, 11, 1, 6, 1);
        for (int left = 11; left >= 0; left--) {
            CHECK.due("undo()", x.undo(), left);
            CHECK.due("count(2)", x.count(2), left);
        }
        CHECK.due("undo() of none", x.undo(), SelfScale.STATE);
    }
}
