/** Promises 13 and 14: which weighing to make next, and how few make a thing sure; see PlanBoundsTest, too. */
public final class PlanTest {
    private static final Check CHECK = new Check("PlanTest");

    public static void main(String[] args) {
        nextAtFirst();
        nextOfSome();
        fewestOfOwn();
        fewestOfThings();
        fewestAfterUnheard();
        CHECK.end();
    }

    private static void nextAtFirst() {
        // Of 10 each figure is shown by 9 of the 90 with one thing: nothing is better.
        SelfScale x = Check.market("thing 3;thing 4;");
        CHECK.due("the least of several", x.next(0), 1);
        CHECK.due("worst", x.next(1), 81);
        // Of 20 the sums of both are spread wider than those of one.
        SelfScale y = Check.market("thing 3;thing 4;figures 20;");
        CHECK.due("both", y.next(0), 3);
        CHECK.due("both, worst", y.next(1), worstOfBoth());
    }

    private static int worstOfBoth() {
        int[] ways = new int[20];
        for (int a = 1; a <= 9; a++) {
            for (int b = 1; b <= 9; b++) {
                for (int own = 0; own <= 9; own++) {
                    ways[(a + b + own) % 20]++;
                }
            }
        }
        int worst = 0;
        for (int way : ways) {
            worst = Math.max(worst, way);
        }
        return worst;
    }

    private static void nextOfSome() {
        SelfScale x = Check.market("thing 7;thing 3;thing 9;own 4;");
        x.weigh(0, 0, 1);
        x.weigh(1, 0, 1);
        CHECK.due("another thing", x.next(0), 2);
        CHECK.due("another thing, worst", x.next(1), 9);
        x.weigh(2, 0, 1);
        CHECK.due("the last thing", x.next(0), 4);
        CHECK.due("the last thing, worst", x.next(1), 1);
        x.weigh(4, 0, 1);
        CHECK.due("all is known", x.next(0), 1);
        CHECK.due("all is known, worst", x.next(1), 1);
        x.undo();
        CHECK.due("not so without the last", x.next(0), 4);
    }

    private static void fewestOfOwn() {
        SelfScale x = new SelfScale();
        CHECK.due("of none", x.fewest(3), 1);
        x.weigh(0, 1, 0);
        CHECK.due("one of two", x.fewest(3), 1);
        x.weigh(0, 0, 1);
        CHECK.due("sure", x.fewest(3), 0);
        x.tell(0, 5, 0);
        CHECK.due("none could be", x.fewest(3), 0);
        SelfScale y = Check.market("figures 9;");
        CHECK.due("0 and 9 are as one", y.fewest(3), SelfScale.NONE);
        y.tell(0, 4, 0);
        CHECK.due("no other 4", y.fewest(3), 0);
    }

    private static void fewestOfThings() {
        SelfScale x = Check.market("thing 7;thing 3;own 4;");
        CHECK.due("the scale, then the thing", x.fewest(0), 2);
        CHECK.due("the scale alone", x.fewest(3), 1);
        x.weigh(0, 0, 1);
        CHECK.due("the thing", x.fewest(0), 1);
        CHECK.due("the other thing", x.fewest(1), 1);
        x.weigh(1, 0, 1);
        CHECK.due("sure", x.fewest(0), 0);
        SelfScale y = Check.market("thing 1;figures 8;");
        CHECK.due("1 and 9 are as one", y.fewest(0), SelfScale.NONE);
        SelfScale z = Check.market("thing 1;figures 9;");
        CHECK.due("all nine are apart", z.fewest(0), 2);
        CHECK.due("but not own", z.fewest(3), SelfScale.NONE);
    }

    /** Unheard laughs leave worlds that two weighings tell apart, and some that one does. */
    private static void fewestAfterUnheard() {
        SelfScale x = Check.market("thing 2;thing 3;thing 4;own 1;figures 14;");
        x.weigh(1, 0, 0);
        x.weigh(2, 1, 0);
        x.weigh(4, 0, 0);
        x.weigh(3, 1, 0);
        x.weigh(5, 0, 0);
        x.weigh(6, 1, 0);
        x.weigh(7, 0, 0);
        Model m = new Model();
        for (char sign : "thing 2;thing 3;thing 4;own 1;figures 14;".toCharArray()) {
            m.type(sign, 1);
        }
        m.market();
        for (int k = 0; k < 7; k++) {
            m.tell(x.line(k, 0), x.line(k, 1), x.line(k, 2));
        }
        for (int i = 0; i <= 3; i++) {
            CHECK.due("fewest " + i, x.fewest(i), m.fewest(i));
        }
        CHECK.due("two for a thing", x.fewest(0), 2);
        CHECK.due("one for the scale", x.fewest(3), 1);
    }
}
