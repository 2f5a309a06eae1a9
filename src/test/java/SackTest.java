/** Promises 17 and 18: sacks by differences, things laid by turns; their bounds are in SackBoundsTest. */
public final class SackTest {
    private static final Check CHECK = new Check("SackTest");

    public static void main(String[] args) {
        sacks();
        leastOfSeveral();
        turns();
        CHECK.end();
    }

    private static void sack(SelfScale x, int weight, int things, int one, int other) {
        CHECK.due("sack(" + weight + ", 0)", x.sack(weight, 0), things);
        CHECK.due("sack(" + weight + ", 1)", x.sack(weight, 1), one);
        CHECK.due("sack(" + weight + ", 2)", x.sack(weight, 2), other);
    }

    private static void sacks() {
        SelfScale x = Check.market("thing 7;thing 3;thing 9;own 4;");
        sack(x, 0, 0, 0, 0);
        sack(x, 1, 3, 3, 4);
        sack(x, 2, 2, 4, 1);
        sack(x, 3, 1, 2, 0);
        sack(x, 4, 2, 1, 2);
        sack(x, 5, 3, 6, 1);
        sack(x, 13, 3, 5, 2);
        sack(x, 19, 3, 7, 0);
        sack(x, 8, SelfScale.NONE, SelfScale.NONE, SelfScale.NONE);
        sack(x, 27, SelfScale.NONE, SelfScale.NONE, SelfScale.NONE);
        sack(Check.market("thing 9;thing 9;thing 9;"), 27, 3, 7, 0);
        sack(new SelfScale(), 0, 0, 0, 0);
        sack(new SelfScale(), 1, SelfScale.NONE, SelfScale.NONE, SelfScale.NONE);
    }

    private static void leastOfSeveral() {
        SelfScale x = Check.market("thing 5;thing 5;thing 5;");
        sack(x, 5, 1, 1, 0);
        sack(x, 10, 2, 3, 0);
        sack(x, 0, 0, 0, 0);
        sack(Check.market("thing 3;thing 3;thing 5;"), 2, 2, 4, 1);
        sack(Check.market("thing 5;thing 3;thing 5;"), 2, 2, 1, 2);
        // Two things ahead of three, though 3 comes ahead of 4.
        sack(Check.market("thing 1;thing 1;thing 2;"), 2, 1, 4, 0);
        sack(Check.market("thing 1;thing 2;thing 4;"), 1, 1, 1, 0);
        sack(Check.market("thing 1;thing 2;thing 4;"), 3, 2, 3, 0);
    }

    private static void turns(String text, int want) {
        CHECK.due("byTurns of " + text, Check.market(text).byTurns(), want);
    }

    private static void turns() {
        CHECK.due("of nothing", new SelfScale().byTurns(), 0);
        turns("own 7;figures 4;", 3);
        // One thing: the first lays it if that is more.
        turns("thing 5;own 2;", 7);
        turns("thing 9;own 2;", 2);
        // Whichever comes first, the other one lays the last: 10 shows 0. So it stops at once.
        turns("thing 7;thing 3;", 0);
        // 9 or 8 first, then the other one makes 7 of them.
        turns("thing 9;thing 8;", 7);
        // The other one stops ahead of a last that would show more.
        turns("thing 2;thing 5;", 5);
        turns("thing 1;thing 1;own 3;figures 5;", 3);
        turns("thing 7;thing 3;thing 9;own 4;", 4);
        turns("thing 5;thing 5;thing 5;own 9;figures 20;", 14);
        turns("thing 9;thing 9;thing 9;own 9;figures 20;", 16);
        SelfScale x = Check.market("thing 5;own 2;");
        x.tell(1, 3, 1);
        CHECK.due("whatever the book says", x.byTurns(), 7);
        CHECK.due("the book stays", x.count(2), 1);
    }
}
