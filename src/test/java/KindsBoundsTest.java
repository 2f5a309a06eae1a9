/** Bounds of kinds, the trace and images: promises 19 to 21 and 23. */
public final class KindsBoundsTest {
    private static final Check CHECK = new Check("KindsBoundsTest");
    private static final int[] FAR = {Integer.MIN_VALUE, Integer.MIN_VALUE + 1, -9, -2, -1, 32, Integer.MAX_VALUE};

    public static void main(String[] args) {
        kindsAsTold();
        upIsAskedOnce();
        flourByLines();
        goldByNumber();
        babyByLines();
        belowZero();
        markNo();
        ownIsNoThing();
        traceAtFirst();
        traceOfAllCallsEver();
        traceOfRefused();
        keptEmpty();
        keptFull();
        keptAnew();
        imagesApart();
        imagesStay();
        nothingElse();
        keepBad();
        backBad();
        backState();
        backBadAheadOfState();
        CHECK.end();
    }

    private static void no(Refusals refusals, String call, Refusals.NumberCall refused, int... numbers) {
        for (int number : numbers) {
            refusals.due(call + " with " + number, x -> refused.on(x, number), SelfScale.NO);
        }
    }

    private static void kindsAsTold() {
        CHECK.of("0 THING; 1 SACK, 2 LEAD, 5 BABY (each under THING); 3 FLOUR (under SACK); 4 GOLD (under LEAD)");
        SelfScale x = Check.market("thing 7;thing 2;thing 9;own 4;");
        x.tell(3, 0, 0);
        x.tell(1, 0, 0);
        x.tell(0, 0, 0);
        int[][] marks = {{7, 2, 9}, {11, 6, 13}, {14, 4, 18}, {8, 3, 10}, {14, 5, 20}, {9, 3, 9}};
        for (int kind = 0; kind <= 5; kind++) {
            for (int i = 0; i <= 2; i++) {
                CHECK.due("mark(" + kind + ", " + i + ")", x.mark(kind, i), marks[kind][i]);
            }
        }
    }

    private static void upIsAskedOnce() {
        CHECK.of("\"up\" is what the KIND above does, asked once");
        int[] traces = {1, 11, 101, 1011, 10101, 100001};
        for (int kind = 0; kind <= 5; kind++) {
            SelfScale x = Check.market("thing 7;thing 2;thing 9;own 4;");
            for (int i = 0; i <= 2; i++) {
                x.mark(kind, i);
                CHECK.due("trace() of kind " + kind, x.trace(), (i + 1) * traces[kind]);
            }
        }
    }

    private static void flourByLines() {
        CHECK.of("FLOUR up less how many LINES there are: 0 .. 12");
        SelfScale x = Check.market("thing 7;own 4;");
        for (int lines = 0; lines <= 12; lines++) {
            CHECK.due("mark(3, 0) of " + lines, x.mark(3, 0), 11 - lines);
            x.tell(0, 0, 0);
        }
        x.undo();
        CHECK.due("mark(3, 0) of one undone", x.mark(3, 0), 0);
    }

    private static void goldByNumber() {
        CHECK.of("GOLD up, and its number: 0 .. 2");
        SelfScale x = Check.market("thing 9;thing 9;thing 9;own 4;");
        CHECK.due("mark(4, 0)", x.mark(4, 0), 18);
        CHECK.due("mark(4, 1)", x.mark(4, 1), 19);
        CHECK.due("mark(4, 2)", x.mark(4, 2), 20);
    }

    private static void babyByLines() {
        CHECK.of("BABY up, and in how many LINES it is: 0 .. 12");
        SelfScale x = Check.market("thing 7;thing 5;thing 3;own 4;");
        for (int lines = 0; lines <= 12; lines++) {
            CHECK.due("mark(5, 0) in none", x.mark(5, 0), 7);
            CHECK.due("mark(5, 1) in " + lines / 2, x.mark(5, 1), 5 + lines / 2);
            CHECK.due("mark(5, 2) in " + lines, x.mark(5, 2), 3 + lines);
            x.tell(lines % 2 == 0 ? 4 : 6, 0, 0);
        }
        for (int left = 11; left >= 0; left--) {
            x.undo();
            CHECK.due("mark(5, 2) in " + left, x.mark(5, 2), 3 + left);
        }
    }

    private static void belowZero() {
        CHECK.of("NO: What none is, where a number may be below 0");
        SelfScale x = Check.market("thing 1;");
        for (int k = 0; k < 12; k++) {
            CHECK.due("mark(3, 0)", x.mark(3, 0), 1 - k);
            x.tell(1, 0, 0);
        }
        CHECK.due("the least of all", x.mark(3, 0), -11);
        CHECK.due("NO", SelfScale.NO, -1000000);
    }

    private static void markNo() {
        CHECK.of("Promise 19: NO: BAD");
        Refusals busy = new Refusals(CHECK, Refusals::busy);
        for (int i = 0; i <= 2; i++) {
            int of = i;
            no(busy, "mark(kind, " + i + ")", (x, kind) -> x.mark(kind, of), FAR);
            no(busy, "mark(kind, " + i + ")", (x, kind) -> x.mark(kind, of), 6, 7);
        }
        for (int kind = 0; kind <= 5; kind++) {
            int as = kind;
            no(busy, "mark(" + kind + ", i)", (x, i) -> x.mark(as, i), FAR);
            no(busy, "mark(" + kind + ", i)", (x, i) -> x.mark(as, i), 4);
            no(new Refusals(CHECK, Refusals::fresh), "mark(" + kind + ", i) of none", (x, i) -> x.mark(as, i), 0, 1, 2);
            no(new Refusals(CHECK, Refusals::torn), "mark(" + kind + ", i) of two", (x, i) -> x.mark(as, i), 2);
        }
    }

    private static void ownIsNoThing() {
        CHECK.of("MARK of a THING: OWN is none");
        for (int kind = 0; kind <= 5; kind++) {
            int as = kind;
            no(new Refusals(CHECK, Refusals::busy), "mark(" + kind + ", i)", (x, i) -> x.mark(as, i), 3);
            no(new Refusals(CHECK, Refusals::fresh), "mark(" + kind + ", i)", (x, i) -> x.mark(as, i), 3);
        }
    }

    private static void traceAtFirst() {
        CHECK.of("THE TRACE (0 at first");
        SelfScale x = new SelfScale();
        CHECK.due("trace()", x.trace(), 0);
        CHECK.due("trace() again", x.trace(), 0);
    }

    private static void traceOfAllCallsEver() {
        CHECK.of("THE TRACE: of all calls ever, together");
        SelfScale x = Check.market("thing 1;");
        x.mark(0, 0);
        x.keep(0);
        x.tell(1, 0, 0);
        x.mark(1, 0);
        x.undo();
        x.mark(2, 0);
        x.back(0);
        x.mark(3, 0);
        Check.type(x, "thing 2;thing 3;");
        x.market();
        x.mark(4, 1);
        x.clear();
        x.mark(5, 0);
        CHECK.due("trace()", x.trace(), 1 + 11 + 101 + 1011 + 10101 + 100001);
    }

    private static void traceOfRefused() {
        CHECK.of("Refused, and nothing changes: THE TRACE");
        SelfScale x = Check.market("thing 1;");
        x.mark(5, 0);
        x.mark(6, 0);
        x.mark(-1, 0);
        x.mark(0, 1);
        x.mark(0, 3);
        x.mark(0, -1);
        CHECK.due("trace()", x.trace(), 100001);
    }

    private static void line(SelfScale x, int k, int set, int shown, int laugh) {
        CHECK.due("line(" + k + ", 0)", x.line(k, 0), set);
        CHECK.due("line(" + k + ", 1)", x.line(k, 1), shown);
        CHECK.due("line(" + k + ", 2)", x.line(k, 2), laugh);
    }

    private static void keptEmpty() {
        CHECK.of("An IMAGE is kept: how many LINES: none");
        SelfScale x = Check.market("thing 7;");
        CHECK.due("keep(0)", x.keep(0), 0);
        CHECK.due("back(0) of no lines", x.back(0), 0);
        x.tell(1, 3, 1);
        CHECK.due("could of one", x.could(-1, 0), 9);
        CHECK.due("back(0) of one line", x.back(0), 0);
        CHECK.due("count(2)", x.count(2), 0);
        CHECK.due("line(0, 0)", x.line(0, 0), SelfScale.BAD);
        CHECK.due("undo()", x.undo(), SelfScale.STATE);
        CHECK.due("could of none", x.could(-1, 0), 90);
    }

    private static void keptFull() {
        CHECK.of("An IMAGE is kept: how many LINES: 12");
        SelfScale x = Check.market("thing 7;");
        for (int k = 0; k < 12; k++) {
            x.tell(k % 2, k % 10, k % 3);
        }
        CHECK.due("keep(1)", x.keep(1), 12);
        for (int k = 0; k < 12; k++) {
            x.undo();
        }
        CHECK.due("back(1) of no lines", x.back(1), 12);
        for (int k = 0; k < 12; k++) {
            line(x, k, k % 2, k % 10, k % 3);
        }
        CHECK.due("tell", x.tell(0, 0, 0), SelfScale.FULL);
        CHECK.due("back(1) of twelve", x.back(1), 12);
        CHECK.due("weigh", x.weigh(0, 0, 1), SelfScale.FULL);
    }

    private static void keptAnew() {
        CHECK.of("An IMAGE is kept: again, in place of what it was");
        SelfScale x = Check.market("thing 7;");
        x.tell(1, 3, 1);
        x.tell(0, 3, 2);
        CHECK.due("keep(0) of two", x.keep(0), 2);
        x.undo();
        x.undo();
        x.tell(0, 8, 0);
        CHECK.due("keep(0) of one", x.keep(0), 1);
        x.tell(0, 9, 0);
        CHECK.due("back(0)", x.back(0), 1);
        line(x, 0, 0, 8, 0);
        CHECK.due("line(1, 0)", x.line(1, 0), SelfScale.BAD);
    }

    private static void imagesApart() {
        CHECK.of("IMAGES 0, 1 keep THE BOOK");
        SelfScale x = Check.market("thing 7;");
        x.tell(1, 3, 1);
        x.keep(0);
        x.tell(0, 8, 2);
        x.keep(1);
        x.undo();
        x.undo();
        CHECK.due("back(1)", x.back(1), 2);
        CHECK.due("back(0)", x.back(0), 1);
        line(x, 0, 1, 3, 1);
        CHECK.due("back(1) again", x.back(1), 2);
        line(x, 0, 1, 3, 1);
        line(x, 1, 0, 8, 2);
    }

    private static void imagesStay() {
        CHECK.of("All of that becomes as an IMAGE has it: the IMAGE stays");
        SelfScale x = Check.market("thing 7;");
        x.tell(1, 3, 1);
        x.keep(0);
        x.undo();
        x.tell(0, 9, 2);
        CHECK.due("could of 9", x.could(-1, 0), 18);
        CHECK.due("back(0)", x.back(0), 1);
        line(x, 0, 1, 3, 1);
        CHECK.due("could of 3", x.could(-1, 0), 9);
        x.tell(1, 4, 0);
        x.undo();
        x.undo();
        x.tell(1, 5, 0);
        CHECK.due("back(0) again", x.back(0), 1);
        line(x, 0, 1, 3, 1);
    }

    private static void nothingElse() {
        CHECK.of("IMAGES 0, 1 keep THE BOOK; nothing else");
        SelfScale x = Check.market("thing 7;thing 2;own 3;figures 12;");
        Check.type(x, "own");
        x.keep(0);
        x.mark(0, 0);
        Check.type(x, " 5");
        x.tell(0, 1, 0);
        x.keep(1);
        CHECK.due("back(0)", x.back(0), 0);
        CHECK.due("trace()", x.trace(), 1);
        CHECK.due("count(0)", x.count(0), 2);
        CHECK.due("count(1)", x.count(1), 12);
        CHECK.due("count(3)", x.count(3), 5);
        CHECK.due("thing(0)", x.thing(0), 7);
        CHECK.due("thing(3)", x.thing(3), 3);
        CHECK.due("back(1) is there yet", x.back(1), 1);
    }

    private static void keepBad() {
        CHECK.of("Promise 20: BAD");
        for (Refusals.Start start : new Refusals.Start[] {Refusals::busy, Refusals::full, Refusals::fresh}) {
            Refusals refusals = new Refusals(CHECK, start);
            refusals.bad("keep(image)", SelfScale::keep, FAR);
            refusals.bad("keep(image)", SelfScale::keep, 2, 3);
        }
    }

    private static void backBad() {
        CHECK.of("Promise 21: BAD");
        Refusals refusals = new Refusals(CHECK, () -> {
            SelfScale x = Refusals.busy();
            x.keep(1);
            return x;
        });
        refusals.bad("back(image)", SelfScale::back, FAR);
        refusals.bad("back(image)", SelfScale::back, 2, 3);
    }

    private static void backState() {
        CHECK.of("Promise 21: STATE: none was kept");
        Refusals fresh = new Refusals(CHECK, Refusals::fresh);
        fresh.due("back(0) of none", x -> x.back(0), SelfScale.STATE);
        fresh.due("back(1) of none", x -> x.back(1), SelfScale.STATE);
        new Refusals(CHECK, Refusals::busy).due("back(1) as 0 was kept", x -> x.back(1), SelfScale.STATE);
        new Refusals(CHECK, Refusals::full).due("back(0) as 1 was kept", x -> x.back(0), SelfScale.STATE);
        Refusals gone = new Refusals(CHECK, () -> {
            SelfScale x = Refusals.full();
            x.keep(0);
            x.market();
            x.tell(1, 3, 2);
            return x;
        });
        gone.due("back(0) behind a market", x -> x.back(0), SelfScale.STATE);
        gone.due("back(1) behind a market", x -> x.back(1), SelfScale.STATE);
    }

    private static void backBadAheadOfState() {
        CHECK.of("the first of these: BAD .., STATE .., FULL: back");
        new Refusals(CHECK, Refusals::fresh).bad("back(image)", SelfScale::back, FAR);
        new Refusals(CHECK, Refusals::fresh).bad("back(image)", SelfScale::back, 2, 3);
    }
}
