/** Promises 6 to 9: weighings, told lines, the book's lines, undone ones. */
public final class BookTest {
    private static final Check CHECK = new Check("BookTest");

    public static void main(String[] args) {
        shownWeights();
        weighingsInTheBook();
        badWeighings();
        toldLines();
        badTelling();
        fullBook();
        badLines();
        undoing();
        CHECK.end();
    }

    private static void shownWeights() {
        SelfScale x = Check.market("thing 7;thing 3;thing 9;own 4;");
        CHECK.due("none", x.weigh(0, 0, 1), 4);
        CHECK.due("none, a laugh", x.weigh(0, 1, 1), 5);
        CHECK.due("7", x.weigh(1, 0, 1), 1);
        CHECK.due("3", x.weigh(2, 0, 1), 7);
        CHECK.due("7 and 3", x.weigh(3, 1, 1), 5);
        CHECK.due("9", x.weigh(4, 0, 0), 3);
        CHECK.due("all", x.weigh(7, 1, 0), 4);
        SelfScale y = Check.market("thing 9;thing 9;thing 9;own 9;figures 20;");
        CHECK.due("all, of 20", y.weigh(7, 1, 1), 17);
        CHECK.due("one, of 20", y.weigh(1, 0, 1), 18);
        CHECK.due("one and a laugh, of 20", y.weigh(1, 1, 1), 19);
        SelfScale z = Check.market("thing 9;own 9;figures 2;");
        CHECK.due("none, of 2", z.weigh(0, 0, 1), 1);
        CHECK.due("one, of 2", z.weigh(1, 0, 1), 0);
        CHECK.due("one and a laugh, of 2", z.weigh(1, 1, 0), 1);
    }

    private static void line(SelfScale x, int k, int set, int shown, int laugh) {
        CHECK.due("line " + k + " things", x.line(k, 0), set);
        CHECK.due("line " + k + " shown", x.line(k, 1), shown);
        CHECK.due("line " + k + " laugh", x.line(k, 2), laugh);
    }

    private static void weighingsInTheBook() {
        SelfScale x = Check.market("thing 7;thing 3;own 4;");
        x.weigh(3, 0, 1);
        x.weigh(1, 1, 1);
        x.weigh(2, 0, 0);
        x.weigh(0, 1, 0);
        CHECK.due("lines", x.count(2), 4);
        line(x, 0, 3, 4, 0);
        line(x, 1, 1, 2, 1);
        line(x, 2, 2, 7, 2);
        line(x, 3, 0, 5, 2);
    }

    private static void badWeighings() {
        SelfScale x = Check.market("thing 7;thing 3;");
        int[] sets = {-1, 4, 5, 8, Integer.MIN_VALUE, Integer.MAX_VALUE};
        for (int set : sets) {
            CHECK.due("set " + set, x.weigh(set, 0, 1), SelfScale.BAD);
        }
        int[] numbers = {-1, 2, Integer.MIN_VALUE, Integer.MAX_VALUE};
        for (int number : numbers) {
            CHECK.due("laughs " + number, x.weigh(1, number, 1), SelfScale.BAD);
            CHECK.due("heard " + number, x.weigh(1, 0, number), SelfScale.BAD);
        }
        CHECK.due("no lines", x.count(2), 0);
        SelfScale none = new SelfScale();
        CHECK.due("a bit of no thing", none.weigh(1, 0, 1), SelfScale.BAD);
    }

    private static void toldLines() {
        SelfScale x = Check.market("thing 7;thing 3;figures 15;");
        CHECK.due("first", x.tell(3, 14, 0), 1);
        CHECK.due("second", x.tell(0, 0, 1), 2);
        CHECK.due("third", x.tell(2, 9, 2), 3);
        line(x, 0, 3, 14, 0);
        line(x, 1, 0, 0, 1);
        line(x, 2, 2, 9, 2);
    }

    private static void badTelling() {
        SelfScale x = Check.market("thing 7;figures 15;");
        CHECK.due("set -1", x.tell(-1, 0, 0), SelfScale.BAD);
        CHECK.due("set 2", x.tell(2, 0, 0), SelfScale.BAD);
        CHECK.due("shown -1", x.tell(1, -1, 0), SelfScale.BAD);
        CHECK.due("shown 15", x.tell(1, 15, 0), SelfScale.BAD);
        CHECK.due("laugh -1", x.tell(1, 0, -1), SelfScale.BAD);
        CHECK.due("laugh 3", x.tell(1, 0, 3), SelfScale.BAD);
        CHECK.due("no lines", x.count(2), 0);
    }

    private static void fullBook() {
        SelfScale x = Check.market("thing 7;");
        for (int k = 0; k < 12; k++) {
            if (k % 2 == 0) {
                CHECK.due("told", x.tell(1, k % 10, 2), k + 1);
            } else {
                CHECK.due("weighed", x.weigh(0, 1, 0), 1);
            }
        }
        CHECK.due("full to weigh", x.weigh(0, 1, 0), SelfScale.FULL);
        CHECK.due("full to tell", x.tell(0, 1, 0), SelfScale.FULL);
        CHECK.due("bad ahead of full, weigh", x.weigh(2, 1, 0), SelfScale.BAD);
        CHECK.due("bad ahead of full, tell", x.tell(0, 10, 0), SelfScale.BAD);
        CHECK.due("twelve", x.count(2), 12);
        line(x, 11, 0, 1, 2);
        x.undo();
        CHECK.due("one more", x.tell(1, 3, 1), 12);
        line(x, 11, 1, 3, 1);
    }

    private static void badLines() {
        SelfScale x = Check.market("thing 7;");
        CHECK.due("none yet", x.line(0, 0), SelfScale.BAD);
        x.tell(1, 2, 1);
        CHECK.due("k -1", x.line(-1, 0), SelfScale.BAD);
        CHECK.due("k 1", x.line(1, 0), SelfScale.BAD);
        CHECK.due("k most", x.line(Integer.MAX_VALUE, 0), SelfScale.BAD);
        CHECK.due("what -1", x.line(0, -1), SelfScale.BAD);
        CHECK.due("what 3", x.line(0, 3), SelfScale.BAD);
    }

    private static void undoing() {
        SelfScale x = Check.market("thing 7;");
        CHECK.due("nothing to undo", x.undo(), SelfScale.STATE);
        x.tell(1, 2, 1);
        x.tell(0, 3, 0);
        CHECK.due("could of both", x.could(-1, 0), 1);
        CHECK.due("the latest", x.undo(), 1);
        line(x, 0, 1, 2, 1);
        CHECK.due("gone", x.line(1, 0), SelfScale.BAD);
        CHECK.due("could of the first", x.could(-1, 0), 9);
        CHECK.due("the first", x.undo(), 0);
        CHECK.due("could of none", x.could(-1, 0), 90);
        CHECK.due("none left", x.undo(), SelfScale.STATE);
    }
}
