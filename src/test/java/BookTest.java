/** Promises 6 to 8: weighings, told lines, the book's lines; their bounds, and 9, are in BookBoundsTest. */
public final class BookTest {
    private static final Check CHECK = new Check("BookTest");

    public static void main(String[] args) {
        shownWeights();
        weighingsInTheBook();
        toldLines();
        CHECK.end();
    }

    private static void shownWeights() {
        SelfScale x = Check.market("thing 7;thing 3;thing 9;own 4;");
        CHECK.due("none", x.weigh(0, 0, 1), 4);
        CHECK.due("none, a laugh", x.weigh(0, 1, 1), 5);
        CHECK.due("7", x.weigh(1, 0, 1), 1);
        CHECK.due("3", x.weigh(2, 0, 1), 7);
        CHECK.due("7 and 3", x.weigh(3, 1, 1), 5);
        CHECK.due("9", x.weigh(4, 0, 0), 3);
        CHECK.due("all", x.weigh(7, 1, 0), 4);
        SelfScale y = Check.market("thing 9;thing 9;thing 9;own 9;figures 20;");
        CHECK.due("all, of 20", y.weigh(7, 1, 1), 17);
        CHECK.due("one, of 20", y.weigh(1, 0, 1), 18);
        CHECK.due("one and a laugh, of 20", y.weigh(1, 1, 1), 19);
        SelfScale z = Check.market("thing 9;own 9;figures 2;");
        CHECK.due("none, of 2", z.weigh(0, 0, 1), 1);
        CHECK.due("one, of 2", z.weigh(1, 0, 1), 0);
        CHECK.due("one and a laugh, of 2", z.weigh(1, 1, 0), 1);
    }

    private static void line(SelfScale x, int k, int set, int shown, int laugh) {
        CHECK.due("line " + k + " things", x.line(k, 0), set);
        CHECK.due("line " + k + " shown", x.line(k, 1), shown);
        CHECK.due("line " + k + " laugh", x.line(k, 2), laugh);
    }

    private static void weighingsInTheBook() {
        SelfScale x = Check.market("thing 7;thing 3;own 4;");
        x.weigh(3, 0, 1);
        x.weigh(1, 1, 1);
        x.weigh(2, 0, 0);
        x.weigh(0, 1, 0);
        CHECK.due("lines", x.count(2), 4);
        line(x, 0, 3, 4, 0);
        line(x, 1, 1, 2, 1);
        line(x, 2, 2, 7, 2);
        line(x, 3, 0, 5, 2);
    }

    private static void toldLines() {
        SelfScale x = Check.market("thing 7;thing 3;figures 15;");
        CHECK.due("first", x.tell(3, 14, 0), 1);
        CHECK.due("second", x.tell(0, 0, 1), 2);
        CHECK.due("third", x.tell(2, 9, 2), 3);
        line(x, 0, 3, 14, 0);
        line(x, 1, 0, 0, 1);
        line(x, 2, 2, 9, 2);
    }
}
