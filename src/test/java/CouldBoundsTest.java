/** Bounds of what could be: worlds, fitting lines, sure weights, false lines, laughs, odds: promises 10 to 12, 15, 16. */
public final class CouldBoundsTest {
    private static final Check CHECK = new Check("CouldBoundsTest");
    private static final int[] FAR = {Integer.MIN_VALUE, Integer.MIN_VALUE + 1, -9, -2, 32, Integer.MAX_VALUE};

    public static void main(String[] args) {
        allWorlds();
        thingsOfWorlds();
        ownOfWorlds();
        fitsWithoutLaugh();
        fitsWithLaugh();
        fitsUnheard();
        fitsOverFigures();
        fitsOfEverySet();
        fitsOfAllNines();
        allLinesFit();
        noneCouldBe();
        wIsLookedAt();
        couldBad();
        sureOfOne();
        sureNoneOfSeveral();
        sureNoneOfNone();
        sureBad();
        falseOfNoLines();
        falseOfAllLines();
        falseOfSomeWorld();
        everOfSeveral();
        wrongBad();
        laughSurely();
        laughTold();
        laughNoneOfBoth();
        laughNoneOfNone();
        laughBad();
        oddsEnds();
        oddsSure();
        oddsTold();
        oddsOfTwelve();
        oddsAnew();
        oddsBad();
        oddsState();
        oddsBadAheadOfState();
        CHECK.end();
    }

    private static void allWorlds() {
        CHECK.of("WORLDS: all ways for all THINGS to weigh 1 .. 9, and OWN 0 .. 9");
        CHECK.due("no thing", new SelfScale().could(-1, 0), 10);
        CHECK.due("one", Check.market("thing 9;own 9;").could(-1, 0), 90);
        CHECK.due("two", Check.market("thing 9;thing 1;").could(-1, 0), 810);
        CHECK.due("three", Check.market("thing 9;thing 1;thing 5;figures 2;").could(-1, 0), 7290);
        CHECK.due("three by 20", Check.market("thing 9;thing 1;thing 5;figures 20;").could(-1, 0), 7290);
    }

    private static void thingsOfWorlds() {
        CHECK.of("all THINGS to weigh 1 .. 9");
        SelfScale x = Check.market("thing 9;thing 1;thing 5;");
        for (int i = 0; i <= 2; i++) {
            CHECK.due("could(" + i + ", 0)", x.could(i, 0), 0);
            for (int w = 1; w <= 9; w++) {
                CHECK.due("could(" + i + ", " + w + ")", x.could(i, w), 810);
            }
        }
    }

    private static void ownOfWorlds() {
        CHECK.of("and OWN 0 .. 9");
        SelfScale x = Check.market("thing 9;thing 1;thing 5;own 4;");
        SelfScale y = new SelfScale();
        for (int w = 0; w <= 9; w++) {
            CHECK.due("could(3, " + w + ")", x.could(3, w), 729);
            CHECK.due("could(3, " + w + ") of no things", y.could(3, w), 1);
        }
    }

    /** Of a book of one line without things: whether own of so much could be, for each, and for how many. */
    private static void own(int figures, int shown, int laugh, int... owns) {
        SelfScale x = Check.market("own 5;figures " + figures + ";");
        x.tell(0, shown, laugh);
        String line = " of tell(0, " + shown + ", " + laugh + ") by " + figures;
        CHECK.due("could(-1, 0)" + line, x.could(-1, 0), owns.length);
        for (int w = 0; w <= 9; w++) {
            int could = 0;
            for (int own : owns) {
                could += own == w ? 1 : 0;
            }
            CHECK.due("could(3, " + w + ")" + line, x.could(3, w), could);
        }
    }

    private static void fitsWithoutLaugh() {
        CHECK.of("A LINE FITS a WORLD, if its SHOWN is what THE SCALE would show there, with that laugh (0)");
        own(20, 0, 0, 0);
        own(20, 9, 0, 9);
        own(20, 10, 0);
        own(20, 19, 0);
    }

    private static void fitsWithLaugh() {
        CHECK.of("A LINE FITS a WORLD, if its SHOWN is what THE SCALE would show there, with that laugh (1)");
        own(20, 0, 1);
        own(20, 1, 1, 0);
        own(20, 10, 1, 9);
        own(20, 11, 1);
    }

    private static void fitsUnheard() {
        CHECK.of("with 2: with one or without");
        own(20, 0, 2, 0);
        own(20, 1, 2, 0, 1);
        own(20, 9, 2, 8, 9);
        own(20, 10, 2, 9);
        own(20, 11, 2);
        own(20, 19, 2);
    }

    private static void fitsOverFigures() {
        CHECK.of("SHOWN, left over by FIGURES, in WORLDS, too");
        own(10, 0, 0, 0);
        own(10, 0, 1, 9);
        own(10, 0, 2, 0, 9);
        own(9, 0, 0, 0, 9);
        own(9, 0, 1, 8);
        own(9, 0, 2, 0, 8, 9);
        own(2, 0, 0, 0, 2, 4, 6, 8);
        own(2, 0, 1, 1, 3, 5, 7, 9);
        own(2, 0, 2, 0, 1, 2, 3, 4, 5, 6, 7, 8, 9);
        own(2, 1, 2, 0, 1, 2, 3, 4, 5, 6, 7, 8, 9);
        SelfScale x = Check.market("thing 9;thing 9;thing 9;figures 20;");
        x.tell(7, 17, 1);
        x.tell(0, 9, 0);
        // 36 and a laugh, and 16 and a laugh: 27 or 7 for three things.
        CHECK.due("three of 27 or of 7", x.could(-1, 0), 1 + 15);
        CHECK.due("27", x.could(0, 9), 1);
        CHECK.due("7 with a 5", x.could(2, 5), 1);
        CHECK.due("7 with a 6", x.could(2, 6), 0);
    }

    private static void fitsOfEverySet() {
        CHECK.of("A LINE FITS a WORLD: the weights of its THINGS (bits; none, too)");
        for (int set = 0; set <= 7; set++) {
            for (int shown = 0; shown <= 19; shown++) {
                int[] could = new int[10];
                for (int world = 0; world < 7290; world++) {
                    int[] weights = {world / 810 + 1, world / 90 % 9 + 1, world / 10 % 9 + 1};
                    int load = world % 10;
                    for (int i = 0; i <= 2; i++) {
                        load += (set >> i & 1) * weights[i];
                    }
                    could[weights[1]] += load % 20 == shown ? 1 : 0;
                }
                SelfScale x = Check.market("thing 9;thing 1;thing 5;figures 20;");
                x.tell(set, shown, 0);
                for (int w = 1; w <= 9; w++) {
                    CHECK.due("could(1, " + w + ") of tell(" + set + ", " + shown + ", 0)", x.could(1, w), could[w]);
                }
            }
        }
    }

    private static void fitsOfAllNines() {
        CHECK.of("WORLDS: all THINGS 9 and OWN 9");
        SelfScale x = Check.market("thing 9;thing 9;thing 9;own 9;figures 20;");
        x.tell(0, 9, 0);
        x.tell(7, 0, 0);
        // Own is 9, the things are 11: not 27.
        CHECK.due("could(-1, 0)", x.could(-1, 0), 45);
        CHECK.due("could(0, 9)", x.could(0, 9), 1);
        x.undo();
        x.tell(7, 16, 0);
        x.tell(3, 7, 0);
        CHECK.due("could(-1, 0) of 36", x.could(-1, 0), 1);
        CHECK.due("sure(2)", x.sure(2), 9);
    }

    private static void allLinesFit() {
        CHECK.of("COULD: WORLDS that all LINES FIT");
        SelfScale x = Check.market("thing 5;own 4;figures 20;");
        x.tell(0, 5, 2);
        CHECK.due("of one", x.could(-1, 0), 18);
        for (int k = 1; k < 11; k++) {
            x.tell(0, 5, 2);
            CHECK.due("of the same", x.could(-1, 0), 18);
        }
        x.tell(0, 4, 0);
        CHECK.due("the twelfth counts, too", x.could(-1, 0), 9);
        CHECK.due("own", x.could(3, 4), 9);
        x.undo();
        CHECK.due("eleven", x.could(-1, 0), 18);
    }

    private static void noneCouldBe() {
        CHECK.of("COULD: how many: none");
        SelfScale x = Refusals.torn();
        CHECK.due("could(-1, 0)", x.could(-1, 0), 0);
        for (int w = 0; w <= 9; w++) {
            CHECK.due("could(0, " + w + ")", x.could(0, w), 0);
            CHECK.due("could(1, " + w + ")", x.could(1, w), 0);
            CHECK.due("could(3, " + w + ")", x.could(3, w), 0);
        }
    }

    private static void wIsLookedAt() {
        CHECK.of("(i = -1; w is looked at, too)");
        SelfScale x = Refusals.busy();
        int left = x.could(-1, 0);
        for (int w = 1; w <= 9; w++) {
            CHECK.due("could(-1, " + w + ")", x.could(-1, w), left);
        }
        Refusals refusals = new Refusals(CHECK, Refusals::busy);
        refusals.bad("could(-1, w)", (y, w) -> y.could(-1, w), FAR);
        refusals.bad("could(-1, w)", (y, w) -> y.could(-1, w), -1, 10);
    }

    private static void couldBad() {
        CHECK.of("Promise 10: BAD");
        Refusals refusals = new Refusals(CHECK, Refusals::busy);
        refusals.bad("could(i, 5)", (x, i) -> x.could(i, 5), FAR);
        refusals.bad("could(i, 5)", (x, i) -> x.could(i, 5), -2, 4, 5);
        for (int i : new int[] {0, 1, 2, 3}) {
            refusals.bad("could(" + i + ", w)", (x, w) -> x.could(i, w), FAR);
            refusals.bad("could(" + i + ", w)", (x, w) -> x.could(i, w), -1, 10);
        }
        new Refusals(CHECK, Refusals::fresh).bad("could(i, 5) of no things", (x, i) -> x.could(i, 5), 0, 1, 2, 4);
        new Refusals(CHECK, Refusals::torn).bad("could(i, 5) of two", (x, i) -> x.could(i, 5), -2, 2, 4);
    }

    private static void sureOfOne() {
        CHECK.of("SURE: what a THING (3: OWN) weighs in all of these");
        for (int w = 0; w <= 9; w++) {
            SelfScale x = Check.market("thing 5;figures 20;");
            x.tell(0, w, 0);
            CHECK.due("sure(3)", x.sure(3), w);
            CHECK.due("sure(0)", x.sure(0), SelfScale.NONE);
            x.tell(1, w + 9, 0);
            CHECK.due("sure(0)", x.sure(0), 9);
            x.undo();
            x.tell(1, w + 1, 0);
            CHECK.due("sure(0)", x.sure(0), 1);
        }
    }

    private static void sureNoneOfSeveral() {
        CHECK.of("NONE (not one and the same");
        SelfScale x = new SelfScale();
        CHECK.due("sure(3) of ten", x.sure(3), SelfScale.NONE);
        x.tell(0, 5, 2);
        CHECK.due("sure(3) of two", x.sure(3), SelfScale.NONE);
        x.tell(0, 4, 2);
        CHECK.due("sure(3) of one", x.sure(3), 4);
        // Several worlds, in all of them the same.
        SelfScale y = Check.market("thing 5;thing 6;");
        y.tell(0, 4, 0);
        CHECK.due("could(-1, 0)", y.could(-1, 0), 81);
        CHECK.due("sure(3)", y.sure(3), 4);
        CHECK.due("sure(1)", y.sure(1), SelfScale.NONE);
    }

    private static void sureNoneOfNone() {
        CHECK.of("NONE (or there are none of these)");
        SelfScale x = Refusals.torn();
        CHECK.due("sure(0)", x.sure(0), SelfScale.NONE);
        CHECK.due("sure(1)", x.sure(1), SelfScale.NONE);
        CHECK.due("sure(3)", x.sure(3), SelfScale.NONE);
    }

    private static void sureBad() {
        CHECK.of("Promise 11: BAD");
        Refusals refusals = new Refusals(CHECK, Refusals::busy);
        refusals.bad("sure(i)", SelfScale::sure, FAR);
        refusals.bad("sure(i)", SelfScale::sure, -1, 4);
        new Refusals(CHECK, Refusals::fresh).bad("sure(i) of no things", SelfScale::sure, -1, 0, 1, 2, 4);
        new Refusals(CHECK, Refusals::torn).bad("sure(i) of two", SelfScale::sure, -1, 2, 4);
    }

    private static void falseOfNoLines() {
        CHECK.of("FALSE: the fewest LINES that do not FIT some WORLD: none");
        SelfScale x = new SelfScale();
        CHECK.due("wrong(0) of no lines", x.wrong(0), 0);
        CHECK.due("wrong(1) of no lines", x.wrong(1), 0);
        SelfScale y = Refusals.full();
        CHECK.due("wrong(0) of twelve that fit", y.wrong(0), 0);
        CHECK.due("wrong(1) of twelve that fit", y.wrong(1), 0);
    }

    private static void falseOfAllLines() {
        CHECK.of("FALSE, EVER: all of 12 LINES");
        SelfScale x = Check.market("thing 5;thing 5;thing 5;figures 20;");
        for (int k = 0; k < 12; k++) {
            // One thing and own are 1 to 18; 0 and 19 without a laugh, 0 and 1 with one are none of these.
            x.tell(1 << k % 3, k % 2 == 0 ? 19 : 0, 0);
            CHECK.due("wrong(0)", x.wrong(0), k + 1);
            CHECK.due("wrong(1)", x.wrong(1), (2 << k) - 1);
        }
    }

    private static void falseOfSomeWorld() {
        CHECK.of("EVER: LINES (bits) that do not FIT any of the WORLDS that have so few");
        // The one world of the fewest is the last of all, then the first of all.
        SelfScale last = Check.market("thing 5;");
        last.tell(0, 9, 0);
        last.tell(1, 8, 0);
        last.tell(0, 0, 0);
        CHECK.due("wrong(0)", last.wrong(0), 1);
        CHECK.due("wrong(1)", last.wrong(1), 0);
        last.tell(0, 9, 0);
        CHECK.due("wrong(0) of 9 twice", last.wrong(0), 1);
        CHECK.due("wrong(1) of 9 twice", last.wrong(1), 4);
        SelfScale first = Check.market("thing 5;");
        first.tell(0, 9, 0);
        first.tell(0, 0, 0);
        first.tell(0, 0, 0);
        CHECK.due("wrong(0) of 0 twice", first.wrong(0), 1);
        CHECK.due("wrong(1) of 0 twice", first.wrong(1), 1);
        // The twelfth is the false one.
        SelfScale x = Check.market("thing 5;");
        for (int k = 0; k < 11; k++) {
            x.tell(0, 4, 0);
        }
        x.tell(0, 5, 0);
        CHECK.due("wrong(0) of eleven and one", x.wrong(0), 1);
        CHECK.due("wrong(1) of eleven and one", x.wrong(1), 2048);
    }

    private static void everOfSeveral() {
        CHECK.of("EVER: of several WORLDS that have so few");
        SelfScale x = Check.market("figures 20;");
        x.tell(0, 1, 0);
        x.tell(0, 2, 0);
        CHECK.due("wrong(0) of two ways", x.wrong(0), 1);
        CHECK.due("wrong(1) of two ways", x.wrong(1), 0);
        x.tell(0, 15, 0);
        CHECK.due("wrong(0) with one that never fits", x.wrong(0), 2);
        CHECK.due("wrong(1) with one that never fits", x.wrong(1), 4);
    }

    private static void wrongBad() {
        CHECK.of("Promise 12: BAD");
        for (Refusals.Start start : new Refusals.Start[] {Refusals::busy, Refusals::torn, Refusals::fresh}) {
            Refusals refusals = new Refusals(CHECK, start);
            refusals.bad("wrong(what)", SelfScale::wrong, FAR);
            refusals.bad("wrong(what)", SelfScale::wrong, -1, 2, 3);
        }
    }

    private static void laughSurely() {
        CHECK.of("LAUGH of a LINE: 1, if in all that COULD be somebody laughed there, 0, if in none could");
        SelfScale x = Check.market("own 9;figures 20;");
        x.tell(0, 10, 2);
        CHECK.due("own is at most 9", x.laugh(0), 1);
        SelfScale y = Check.market("figures 20;");
        y.tell(0, 0, 2);
        CHECK.due("own is at least 0", y.laugh(0), 0);
        SelfScale z = new SelfScale();
        for (int k = 0; k < 11; k++) {
            z.tell(0, 5, 2);
        }
        z.tell(0, 6, 2);
        CHECK.due("5 with none, the first", z.laugh(0), 0);
        CHECK.due("5 with none, the eleventh", z.laugh(10), 0);
        CHECK.due("6 with one, the twelfth", z.laugh(11), 1);
    }

    private static void laughTold() {
        CHECK.of("LAUGH of a LINE that tells of it");
        SelfScale x = Check.market("thing 5;");
        x.tell(1, 5, 0);
        x.tell(1, 6, 1);
        x.tell(1, 6, 2);
        CHECK.due("told none", x.laugh(0), 0);
        CHECK.due("told one", x.laugh(1), 1);
        CHECK.due("unheard, sure by the others", x.laugh(2), 1);
    }

    private static void laughNoneOfBoth() {
        CHECK.of("NONE else (where both could be");
        SelfScale x = new SelfScale();
        x.tell(0, 5, 2);
        CHECK.due("own 4 or 5", x.laugh(0), SelfScale.NONE);
        SelfScale y = new SelfScale();
        y.tell(0, 0, 2);
        CHECK.due("own 0 or 9", y.laugh(0), SelfScale.NONE);
        // One world of eighteen has none.
        SelfScale z = Check.market("thing 5;figures 20;");
        z.tell(1, 18, 2);
        CHECK.due("17 twice, 18 once", z.laugh(0), SelfScale.NONE);
        CHECK.due("could(-1, 0)", z.could(-1, 0), 3);
    }

    private static void laughNoneOfNone() {
        CHECK.of("NONE else (or none COULD be)");
        SelfScale x = Refusals.torn();
        x.tell(0, 5, 0);
        CHECK.due("unheard", x.laugh(0), SelfScale.NONE);
        CHECK.due("told one", x.laugh(1), SelfScale.NONE);
        CHECK.due("told none", x.laugh(2), SelfScale.NONE);
    }

    private static void laughBad() {
        CHECK.of("Promise 15: BAD");
        new Refusals(CHECK, Refusals::fresh).bad("laugh(k) of no lines", SelfScale::laugh, -1, 0, 1, 11);
        Refusals refusals = new Refusals(CHECK, Refusals::busy);
        refusals.bad("laugh(k)", SelfScale::laugh, FAR);
        refusals.bad("laugh(k)", SelfScale::laugh, -1, 3, 11, 12);
        new Refusals(CHECK, Refusals::full).bad("laugh(k) of twelve", SelfScale::laugh, -1, 12, 13);
        new Refusals(CHECK, Refusals::torn).bad("laugh(k), none could be", SelfScale::laugh, -1, 2);
    }

    private static void odds(SelfScale x, int k, int a, int b, long upper, long lower) {
        CHECK.due("odds(" + k + ", " + a + ", " + b + ", 0)", x.odds(k, a, b, 0), upper);
        CHECK.due("odds(" + k + ", " + a + ", " + b + ", 1)", x.odds(k, a, b, 1), lower);
    }

    private static int divisor(int a, int b) {
        int divisor = a;
        while (a % divisor != 0 || b % divisor != 0) {
            divisor--;
        }
        return divisor;
    }

    private static void oddsEnds() {
        CHECK.of("ODDS a in b (1 .. 9, a less than b): in least terms");
        SelfScale x = new SelfScale();
        x.tell(0, 5, 2);
        for (int b = 2; b <= 9; b++) {
            for (int a = 1; a < b; a++) {
                odds(x, 0, a, b, a / divisor(a, b), b / divisor(a, b));
            }
        }
    }

    private static void oddsSure() {
        CHECK.of("ODDS of a LINE where there was one surely, or surely none");
        SelfScale x = Check.market("own 9;figures 20;");
        x.tell(0, 10, 2);
        SelfScale y = Check.market("figures 20;");
        y.tell(0, 0, 2);
        for (int b = 2; b <= 9; b++) {
            for (int a = 1; a < b; a++) {
                odds(x, 0, a, b, 1, 1);
                odds(y, 0, a, b, 0, 1);
            }
        }
    }

    private static void oddsTold() {
        CHECK.of("(its laugh told: 1 by 1, 0 by 1");
        SelfScale x = Check.market("thing 5;");
        x.tell(1, 5, 2);
        x.tell(0, 6, 1);
        x.tell(0, 5, 0);
        odds(x, 1, 1, 9, 1, 1);
        odds(x, 2, 1, 9, 0, 1);
        odds(x, 1, 8, 9, 1, 1);
        odds(x, 2, 8, 9, 0, 1);
        // Told alone, with no line that was not heard.
        SelfScale y = new SelfScale();
        y.tell(0, 6, 1);
        y.tell(0, 5, 0);
        odds(y, 0, 1, 2, 1, 1);
        odds(y, 1, 1, 2, 0, 1);
    }

    private static void oddsOfTwelve() {
        CHECK.of("ODDS: of twelve LINES with 2: more than 32 bits");
        SelfScale x = Check.market("thing 9;thing 9;thing 9;own 9;figures 2;");
        for (int k = 0; k < 12; k++) {
            x.tell(0, 0, 2);
        }
        // Own is even: no laughs (8 in 9 twelve times); odd: twelve laughs.
        odds(x, 0, 1, 9, 1, 68719476737L);
        odds(x, 11, 1, 9, 1, 68719476737L);
        odds(x, 11, 8, 9, 68719476736L, 68719476737L);
        odds(x, 11, 1, 2, 1, 2);
    }

    private static void oddsAnew() {
        CHECK.of("ODDS: of LINES with 2: each time of those that there are");
        SelfScale x = Check.market("own 4;figures 20;");
        x.tell(0, 5, 2);
        odds(x, 0, 1, 3, 1, 3);
        x.tell(0, 5, 2);
        // Own 4 with two laughs, or own 5 with none.
        odds(x, 0, 1, 3, 1, 5);
        x.undo();
        odds(x, 0, 1, 3, 1, 3);
        x.undo();
        x.tell(0, 10, 2);
        odds(x, 0, 1, 3, 1, 1);
        CHECK.due("laugh(0)", x.laugh(0), 1);
        x.undo();
        x.tell(0, 0, 2);
        odds(x, 0, 1, 3, 0, 1);
        CHECK.due("laugh(0)", x.laugh(0), 0);
    }

    private static void oddsBad() {
        CHECK.of("Promise 16: BAD");
        new Refusals(CHECK, Refusals::fresh).bad("odds(k, 1, 2, 0) of no lines", (x, k) -> x.odds(k, 1, 2, 0), -1, 0, 11);
        Refusals refusals = new Refusals(CHECK, Refusals::busy);
        badOdds(refusals);
        refusals.bad("odds(k, 1, 2, 0)", (x, k) -> x.odds(k, 1, 2, 0), 3, 11, 12);
        new Refusals(CHECK, Refusals::full).bad("odds(k, 1, 2, 1) of twelve", (x, k) -> x.odds(k, 1, 2, 1), -1, 12);
    }

    private static void badOdds(Refusals refusals) {
        refusals.bad("odds(k, 1, 2, 0)", (x, k) -> x.odds(k, 1, 2, 0), FAR);
        refusals.bad("odds(k, 1, 2, 0)", (x, k) -> x.odds(k, 1, 2, 0), -1);
        refusals.bad("odds(0, a, 9, 0)", (x, a) -> x.odds(0, a, 9, 0), FAR);
        refusals.bad("odds(0, a, 9, 0)", (x, a) -> x.odds(0, a, 9, 0), -1, 0, 9, 10);
        refusals.bad("odds(0, a, 2, 1)", (x, a) -> x.odds(0, a, 2, 1), 0, 2, 3);
        refusals.bad("odds(0, a, 1, 1)", (x, a) -> x.odds(0, a, 1, 1), 0, 1);
        refusals.bad("odds(0, 1, b, 0)", (x, b) -> x.odds(0, 1, b, 0), FAR);
        refusals.bad("odds(0, 1, b, 0)", (x, b) -> x.odds(0, 1, b, 0), -1, 0, 1, 10, 11);
        refusals.bad("odds(0, b - 1, b, 0)", (x, b) -> x.odds(0, b - 1, b, 0), Integer.MIN_VALUE, 0, 1, 10);
        refusals.bad("odds(0, 1, 2, what)", (x, what) -> x.odds(0, 1, 2, what), FAR);
        refusals.bad("odds(0, 1, 2, what)", (x, what) -> x.odds(0, 1, 2, what), -1, 2, 3);
    }

    private static void oddsState() {
        CHECK.of("STATE: none COULD be");
        Refusals refusals = new Refusals(CHECK, Refusals::torn);
        for (int what = 0; what <= 1; what++) {
            int of = what;
            refusals.due("odds of a line not heard", x -> x.odds(0, 1, 2, of), SelfScale.STATE);
            refusals.due("odds of a told one", x -> x.odds(1, 8, 9, of), SelfScale.STATE);
        }
    }

    private static void oddsBadAheadOfState() {
        CHECK.of("the first of these: BAD .., STATE .., FULL: odds");
        Refusals refusals = new Refusals(CHECK, Refusals::torn);
        badOdds(refusals);
        refusals.bad("odds(k, 1, 2, 0)", (x, k) -> x.odds(k, 1, 2, 0), 2);
    }
}
