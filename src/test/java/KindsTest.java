/** Promises 19 to 21 and 23: marks, images, the trace; their bounds are in KindsBoundsTest. */
public final class KindsTest {
    private static final Check CHECK = new Check("KindsTest");

    public static void main(String[] args) {
        marks();
        images();
        CHECK.end();
    }

    private static void mark(SelfScale x, int kind, int i, int want, long trace) {
        long ahead = x.trace();
        CHECK.due("mark(" + kind + ", " + i + ")", x.mark(kind, i), want);
        CHECK.due("trace of mark(" + kind + ", " + i + ")", x.trace() - ahead, trace);
    }

    private static void marks() {
        SelfScale x = Check.market("thing 7;thing 2;thing 9;own 4;");
        x.tell(1, 0, 0);
        x.tell(5, 0, 0);
        x.tell(4, 0, 2);
        mark(x, 0, 0, 7, 1);
        mark(x, 0, 2, 9, 1);
        mark(x, 1, 1, 6, 11);
        mark(x, 2, 1, 4, 101);
        mark(x, 3, 1, 3, 1011);
        mark(x, 4, 0, 14, 10101);
        mark(x, 4, 2, 20, 10101);
        mark(x, 5, 0, 9, 100001);
        mark(x, 5, 1, 2, 100001);
        mark(x, 5, 2, 11, 100001);
        CHECK.due("all together", x.trace(), 321330);
        for (int k = 3; k < 12; k++) {
            x.tell(2, 0, 0);
        }
        mark(x, 3, 1, -6, 1011);
        mark(x, 5, 1, 11, 100001);
        x.undo();
        mark(x, 3, 1, -5, 1011);
        mark(x, 5, 1, 10, 100001);
        SelfScale y = Check.market("thing 1;");
        for (int k = 0; k < 12; k++) {
            y.tell(0, 0, 0);
        }
        mark(y, 3, 0, -11, 1011);
        mark(y, 5, 0, 1, 100001);
    }

    private static void images() {
        SelfScale x = Check.market("thing 7;thing 2;");
        CHECK.due("none kept", x.back(0), SelfScale.STATE);
        CHECK.due("kept without lines", x.keep(0), 0);
        x.tell(1, 5, 2);
        x.tell(3, 4, 1);
        CHECK.due("kept with two", x.keep(1), 2);
        x.undo();
        x.tell(2, 9, 0);
        x.tell(2, 8, 0);
        CHECK.due("three", x.count(2), 3);
        CHECK.due("back to two", x.back(1), 2);
        CHECK.due("line 1 things", x.line(1, 0), 3);
        CHECK.due("line 1 shown", x.line(1, 1), 4);
        CHECK.due("line 1 laugh", x.line(1, 2), 1);
        CHECK.due("line 2 is gone", x.line(2, 0), SelfScale.BAD);
        int two = x.could(-1, 0);
        CHECK.due("back to none", x.back(0), 0);
        CHECK.due("could of none", x.could(-1, 0), 810);
        CHECK.due("back to two again", x.back(1), 2);
        CHECK.due("could of two again", x.could(-1, 0), two);
        x.undo();
        CHECK.due("the image stays as it was", x.back(1), 2);
        x.undo();
        CHECK.due("kept anew", x.keep(1), 1);
        x.undo();
        CHECK.due("back to one", x.back(1), 1);
    }
}
