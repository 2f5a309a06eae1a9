/** Promises 2 to 5 and 22: the text, the market, things, counts; their bounds are in TextBoundsTest. */
public final class ThingsTest {
    private static final Check CHECK = new Check("ThingsTest");

    public static void main(String[] args) {
        typing();
        clearing();
        marketTellsAll();
        goodTexts();
        faultyTexts();
        CHECK.end();
    }

    private static void typing() {
        SelfScale x = new SelfScale();
        // Of "XXown 7;" only the lowest bytes, the highest of them first.
        CHECK.due("lowest 6", x.type(0x58586f776e20373bL, 6), 6);
        CHECK.due("own 7", x.market(), 1);
        CHECK.due("own", x.thing(3), 7);
        CHECK.due("thing", x.type(0x7468696e67L, 5), 5);
        CHECK.due(" 8;", x.type(0x20383bL, 3), 8);
        CHECK.due("thing 8", x.market(), 1);
        CHECK.due("thing 0", x.thing(0), 8);
    }

    private static void clearing() {
        SelfScale x = Check.market("thing 4;own 2;");
        CHECK.due("nothing to clear", x.clear(), 0);
        Check.type(x, "own 5;own");
        CHECK.due("clear", x.clear(), 9);
        CHECK.due("clear again", x.clear(), 0);
        CHECK.due("text is empty", x.count(3), 0);
        CHECK.due("things stay", x.count(0), 1);
        CHECK.due("own stays", x.thing(3), 2);
        Check.type(x, "own 6;");
        CHECK.due("what was cleared is gone", x.market(), 1);
        CHECK.due("own", x.thing(3), 6);
    }

    private static void marketTellsAll() {
        SelfScale x = Check.market("figures 20;thing 9;own 9;thing 1;thing 5;");
        CHECK.due("things", x.count(0), 3);
        CHECK.due("figures", x.count(1), 20);
        CHECK.due("text", x.count(3), 0);
        CHECK.due("thing 0", x.thing(0), 9);
        CHECK.due("thing 1", x.thing(1), 1);
        CHECK.due("thing 2", x.thing(2), 5);
        CHECK.due("own", x.thing(3), 9);
        Check.type(x, "thing 2;");
        CHECK.due("one item", x.market(), 1);
        CHECK.due("one thing", x.count(0), 1);
        CHECK.due("thing 0 anew", x.thing(0), 2);
        CHECK.due("no thing 1", x.thing(1), SelfScale.BAD);
        CHECK.due("own at first", x.thing(3), 0);
        CHECK.due("figures at first", x.count(1), 10);
        CHECK.due("nothing told", x.market(), 0);
        CHECK.due("no things", x.count(0), 0);
    }

    private static void market(String text, int want) {
        SelfScale x = new SelfScale();
        Check.type(x, text);
        CHECK.due("market of '" + text + "'", x.market(), want);
    }

    private static void goodTexts() {
        market("thing 3;", 1);
        market("own 4; figures 12;", 2);
        market("  thing   9  ;  own  9 ;figures  20 ;  ", 3);
        market("thing 1;figures 11;thing 9;own 3;thing 5;", 5);
    }

    private static void faultyTexts() {
        market("thing 3", -17);
        market("thing three;", -16);
        market("thing 3; sack 4;", -19);
        market("own 3;thing 12;own 4;", -22);
        market("thing 3;own 3;figures 1;own 2;", -32);
    }
}
