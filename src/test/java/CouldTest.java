/** Promises 10, 11, 12, 15 and 16: what could be, what is sure, false lines, laughs, odds; see CouldBoundsTest, too. */
public final class CouldTest {
    private static final Check CHECK = new Check("CouldTest");

    public static void main(String[] args) {
        worlds();
        fittingLaughs();
        sureThings();
        falseLines();
        everFalse();
        surelyLaughed();
        oddsOfOne();
        oddsOfSeveral();
        CHECK.end();
    }

    private static void worlds() {
        CHECK.due("no thing", new SelfScale().could(-1, 0), 10);
        SelfScale x = Check.market("thing 7;thing 3;thing 9;");
        CHECK.due("three things", x.could(-1, 0), 7290);
        CHECK.due("nothing weighs 0", x.could(0, 0), 0);
        CHECK.due("thing 0 weighs 1", x.could(0, 1), 810);
        CHECK.due("thing 1 weighs 5", x.could(1, 5), 810);
        CHECK.due("thing 2 weighs 9", x.could(2, 9), 810);
        CHECK.due("own is 0", x.could(3, 0), 729);
        CHECK.due("own is 9", x.could(3, 9), 729);
        // For each weight of thing 0 there is one own weight with which 7 is shown.
        x.weigh(1, 0, 1);
        CHECK.due("one told", x.could(-1, 0), 729);
        CHECK.due("of each weight", x.could(0, 4), 81);
        CHECK.due("own 7 would make thing 0 nothing", x.could(3, 7), 0);
        CHECK.due("own 8", x.could(3, 8), 81);
    }

    private static void fittingLaughs() {
        SelfScale x = Check.market("thing 7;own 2;figures 20;");
        x.tell(1, 9, 0);
        CHECK.due("no laugh", x.could(-1, 0), 9);
        CHECK.due("no laugh, 9 and 0", x.could(0, 9), 1);
        x.undo();
        x.tell(1, 9, 1);
        CHECK.due("a laugh", x.could(-1, 0), 8);
        CHECK.due("a laugh, no 9", x.could(0, 9), 0);
        x.undo();
        x.tell(1, 9, 2);
        CHECK.due("with one or without", x.could(-1, 0), 17);
        CHECK.due("with one or without, 8", x.could(0, 8), 2);
        CHECK.due("with one or without, 9", x.could(0, 9), 1);
        x.tell(0, 0, 1);
        CHECK.due("a laugh alone shows more than 0", x.could(-1, 0), 0);
    }

    private static void sureThings() {
        SelfScale x = Check.market("thing 7;thing 3;own 4;");
        CHECK.due("own at first", x.sure(3), SelfScale.NONE);
        x.weigh(0, 0, 1);
        CHECK.due("own", x.sure(3), 4);
        CHECK.due("thing 0 not yet", x.sure(0), SelfScale.NONE);
        x.weigh(1, 1, 1);
        CHECK.due("thing 0", x.sure(0), 7);
        CHECK.due("thing 1 not yet", x.sure(1), SelfScale.NONE);
        x.weigh(2, 0, 0);
        CHECK.due("thing 1 of two", x.sure(1), SelfScale.NONE);
        CHECK.due("thing 1 is 3", x.could(1, 3), 1);
        CHECK.due("thing 1 is 2", x.could(1, 2), 1);
        x.tell(0, 5, 0);
        CHECK.due("none could be", x.could(-1, 0), 0);
        CHECK.due("nothing is sure of none", x.sure(3), SelfScale.NONE);
        SelfScale y = new SelfScale();
        y.weigh(0, 0, 1);
        CHECK.due("own of 0 is sure", y.sure(3), 0);
        SelfScale z = Check.market("thing 9;own 9;");
        z.weigh(0, 0, 1);
        z.weigh(1, 0, 1);
        CHECK.due("own of 9 is sure", z.sure(3), 9);
        CHECK.due("a thing of 9 is sure", z.sure(0), 9);
    }

    private static void falseLines() {
        SelfScale x = Check.market("thing 7;own 4;");
        CHECK.due("no lines", x.wrong(0), 0);
        CHECK.due("no lines, ever", x.wrong(1), 0);
        x.tell(0, 1, 0);
        x.tell(0, 2, 0);
        CHECK.due("one of two", x.wrong(0), 1);
        CHECK.due("either of them", x.wrong(1), 0);
        x.tell(0, 2, 0);
        CHECK.due("one of three", x.wrong(0), 1);
        CHECK.due("the first", x.wrong(1), 1);
        x.tell(0, 1, 2);
        CHECK.due("1 and 2 against 2 and 2, or 1 and 1", x.wrong(0), 2);
        CHECK.due("two ways", x.wrong(1), 0);
        x.tell(0, 3, 1);
        CHECK.due("one more for 2", x.wrong(0), 2);
        CHECK.due("the first and the fourth", x.wrong(1), 9);
        x.undo();
        CHECK.due("undone", x.wrong(1), 0);
    }

    /** A line that no world fits: a thing of 1 to 9 with own 0 to 9 shows at most 18 of 20. */
    private static void everFalse() {
        SelfScale x = Check.market("thing 7;own 4;figures 20;");
        x.tell(1, 19, 0);
        CHECK.due("19 without a laugh", x.wrong(0), 1);
        CHECK.due("19 without a laugh, ever", x.wrong(1), 1);
        x.tell(0, 4, 0);
        x.tell(1, 0, 2);
        CHECK.due("0 of a thing", x.wrong(0), 2);
        CHECK.due("0 of a thing, ever", x.wrong(1), 5);
        for (int k = 3; k < 12; k++) {
            x.tell(1, 0, 1);
        }
        CHECK.due("eleven", x.wrong(0), 11);
        CHECK.due("eleven, ever", x.wrong(1), 4095 - 2);
    }

    private static void surelyLaughed() {
        SelfScale x = Check.market("thing 7;own 4;");
        CHECK.due("no line", x.laugh(0), SelfScale.BAD);
        x.weigh(1, 1, 0);
        CHECK.due("k -1", x.laugh(-1), SelfScale.BAD);
        CHECK.due("k 1", x.laugh(1), SelfScale.BAD);
        CHECK.due("both could be", x.laugh(0), SelfScale.NONE);
        x.weigh(1, 0, 0);
        CHECK.due("2 ahead of 1: a laugh", x.laugh(0), 1);
        CHECK.due("1 behind 2: none", x.laugh(1), 0);
        // Thing and own are 1 or 11 together: own can't be 1.
        x.tell(0, 2, 1);
        CHECK.due("told a laugh, none could be", x.laugh(2), SelfScale.NONE);
        x.undo();
        x.tell(0, 4, 0);
        x.tell(0, 5, 1);
        CHECK.due("told none", x.laugh(2), 0);
        CHECK.due("told one", x.laugh(3), 1);
        x.tell(0, 9, 0);
        for (int k = 0; k < 5; k++) {
            CHECK.due("none could be", x.laugh(k), SelfScale.NONE);
        }
    }

    private static void odds(SelfScale x, int k, int a, int b, long upper, long lower) {
        CHECK.due("odds(" + k + ", " + a + ", " + b + ", 0)", x.odds(k, a, b, 0), upper);
        CHECK.due("odds(" + k + ", " + a + ", " + b + ", 1)", x.odds(k, a, b, 1), lower);
    }

    private static void oddsOfOne() {
        SelfScale x = Check.market("own 4;figures 20;");
        x.weigh(0, 1, 0);
        odds(x, 0, 1, 2, 1, 2);
        odds(x, 0, 2, 4, 1, 2);
        odds(x, 0, 3, 9, 1, 3);
        odds(x, 0, 8, 9, 8, 9);
        x.weigh(0, 0, 1);
        odds(x, 0, 1, 9, 1, 1);
        odds(x, 1, 1, 9, 0, 1);
        x.weigh(0, 1, 1);
        odds(x, 2, 1, 9, 1, 1);
        SelfScale y = Check.market("own 0;figures 20;");
        y.weigh(0, 0, 0);
        odds(y, 0, 1, 2, 0, 1);
        y.tell(0, 1, 0);
        odds(y, 0, 1, 2, SelfScale.STATE, SelfScale.STATE);
        odds(y, 1, 1, 2, SelfScale.STATE, SelfScale.STATE);
        // 0 with a laugh would be own 9 of 10: as likely as any other.
        SelfScale z = new SelfScale();
        z.weigh(0, 0, 0);
        odds(z, 0, 2, 5, 2, 5);
    }

    /** What one line lets be weighs in the odds of the others. */
    private static void oddsOfSeveral() {
        SelfScale x = Check.market("own 4;figures 20;");
        x.tell(0, 5, 2);
        x.tell(0, 5, 2);
        // Own 5: no laughs (2 by 3 twice); own 4: two laughs (1 by 3 twice).
        odds(x, 0, 1, 3, 1, 5);
        odds(x, 1, 1, 3, 1, 5);
        odds(x, 1, 3, 4, 9, 10);
        x.tell(0, 5, 0);
        odds(x, 0, 1, 3, 0, 1);
        x.undo();
        x.tell(0, 6, 2);
        // Own 5 alone: a laugh in the last.
        odds(x, 0, 1, 3, 0, 1);
        odds(x, 2, 1, 3, 1, 1);
    }
}
