/** What holds of all calls: 512 of them, objects apart, any numbers whatever; held against the Model. */
public final class CallsTest {
    private static final Check CHECK = new Check("CallsTest");
    private static final int[] NUMBERS = {Integer.MIN_VALUE, Integer.MIN_VALUE + 1, -1000000, -10, -9, -3, -2, -1, 0, 1, 2, 3,
        4, 5, 6, 7, 8, 9, 10, 11, 12, 13, 27, 28, 31, 32, 1000000, Integer.MAX_VALUE - 1, Integer.MAX_VALUE};
    private static final int[] FEW = {Integer.MIN_VALUE, -1, 0, 1, 2, 3, 9, 10, Integer.MAX_VALUE};
    private static final String[][] BOOKS = {{"", ""}, {"thing 7;", "0 4 2"}, {"thing 5;thing 3;own 4;figures 9;", "1 0 2,3 3 1"},
        {"thing 9;own 9;figures 20;", "1 18 0,0 8 1,1 19 2"}, {"thing 2;own 1;figures 2;", "0 1 0,0 0 0"}};

    private SelfScale x;
    private Model m;
    private int calls;
    private String text;
    private String book;

    public static void main(String[] args) {
        cheapCalls();
        marks();
        dearCalls();
        objectsApart();
        for (String[] start : BOOKS) {
            new CallsTest().anyNumbers(start[0], start[1]);
        }
        CHECK.end();
    }

    private static void cheapCalls() {
        CHECK.of("An object is used for at most 512 calls: typing");
        SelfScale x = new SelfScale();
        for (int call = 0; call < 512; call++) {
            CHECK.due("type", x.type(';', 1), call < 200 ? call + 1 : SelfScale.FULL);
        }
        SelfScale y = new SelfScale();
        for (int call = 0; call < 256; call++) {
            CHECK.due("weigh", y.weigh(0, 1, 0), 1);
            CHECK.due("undo", y.undo(), 0);
        }
    }

    private static void marks() {
        CHECK.of("An object is used for at most 512 calls: THE TRACE");
        SelfScale x = Check.market("thing 9;");
        for (int call = 3; call <= 511; call++) {
            CHECK.due("mark", x.mark(5, 0), 9);
        }
        CHECK.due("trace()", x.trace(), 509 * 100001);
    }

    private static void dearCalls() {
        CHECK.of("An object is used for at most 512 calls: all WORLDS, held against a new LINE each time");
        SelfScale x = Check.market("thing 9;thing 9;thing 9;figures 20;");
        for (int k = 0; k < 11; k++) {
            x.tell(k % 8, 19, k % 3);
        }
        for (int call = 0; call < 120; call++) {
            x.tell(0, call % 20, 2);
            // Line 0 tells that nothing but own shows 19, as no world has it.
            CHECK.due("could(-1, 0)", x.could(-1, 0), 0);
            CHECK.due("wrong(1)", x.wrong(1) & 1, 1);
            x.undo();
        }
    }

    private static void objectsApart() {
        CHECK.of("two objects are nothing to one another");
        SelfScale x = Check.market("thing 7;own 4;");
        SelfScale y = Check.market("thing 2;thing 3;figures 5;");
        x.tell(1, 1, 0);
        y.tell(3, 0, 2);
        x.keep(0);
        y.mark(1, 0);
        Check.type(x, "own");
        CHECK.due("x could", x.could(-1, 0), 9);
        CHECK.due("y could", y.could(-1, 0), 324);
        CHECK.due("x could", x.could(-1, 0), 9);
        CHECK.due("x trace", x.trace(), 0);
        CHECK.due("y trace", y.trace(), 11);
        CHECK.due("y back", y.back(0), SelfScale.STATE);
        CHECK.due("y text", y.count(3), 0);
        CHECK.due("x text", x.count(3), 3);
        CHECK.due("y line", y.line(0, 0), 3);
        CHECK.due("x line", x.line(0, 0), 1);
    }

    private void anyNumbers(String things, String lines) {
        CHECK.of("any numbers, in '" + things + "' with lines " + lines);
        text = things;
        book = lines;
        begin();
        for (int one : NUMBERS) {
            withOne(one);
            for (int other : NUMBERS) {
                withTwo(one, other);
            }
        }
        for (int one : FEW) {
            for (int two : FEW) {
                for (int three : FEW) {
                    withThree(one, two, three);
                    for (int four : FEW) {
                        due("odds", x.odds(one, two, three, four), m.odds(one, two, three, four));
                    }
                }
            }
        }
    }

    /** A new object and a new model, as there are 512 calls of an object at most. */
    private void begin() {
        x = Check.market(text);
        m = new Model();
        for (char sign : text.toCharArray()) {
            m.type(sign, 1);
        }
        m.market();
        calls = 50;
        for (String line : book.isEmpty() ? new String[0] : book.split(",")) {
            String[] numbers = line.split(" ");
            int set = Integer.parseInt(numbers[0]);
            int shown = Integer.parseInt(numbers[1]);
            int laugh = Integer.parseInt(numbers[2]);
            due("tell", x.tell(set, shown, laugh), m.tell(set, shown, laugh));
        }
    }

    private void due(String call, long got, long want) {
        CHECK.due(call, got, want);
        calls++;
        if (calls > 500) {
            begin();
        }
    }

    private void withOne(int a) {
        String with = "(" + a + ")";
        due("thing" + with, x.thing(a), m.thing(a));
        due("sure" + with, x.sure(a), m.sure(a));
        due("wrong" + with, x.wrong(a), m.wrong(a));
        due("next" + with, x.next(a), m.next(a));
        due("fewest" + with, x.fewest(a), m.fewest(a));
        due("laugh" + with, x.laugh(a), m.laugh(a));
        due("back" + with, x.back(a), m.back(a));
        due("count" + with, x.count(a), m.count(a));
        due("keep" + with, x.keep(a), m.keep(a));
        due("back" + with, x.back(a), m.back(a));
    }

    private void withTwo(int a, int b) {
        String with = "(" + a + ", " + b + ")";
        due("type" + with, x.type(a, b), m.type(a, b));
        due("clear", x.clear(), m.clear());
        due("line" + with, x.line(a, b), m.line(a, b));
        due("could" + with, x.could(a, b), m.could(a, b));
        due("sack" + with, x.sack(a, b), m.sack(a, b));
        due("mark" + with, x.mark(a, b), m.mark(a, b));
        due("trace()", x.trace(), m.trace());
    }

    private void withThree(int a, int b, int c) {
        String with = "(" + a + ", " + b + ", " + c + ")";
        int lines = m.count(2);
        due("weigh" + with, x.weigh(a, b, c), m.weigh(a, b, c));
        due("tell" + with, x.tell(a, b, c), m.tell(a, b, c));
        for (int k = 0; k < 2 && m.count(2) > lines; k++) {
            due("undo", x.undo(), m.undo());
        }
    }
}
