/** Promises 1 to 5 and 22: a new object, the text, the market, things, counts. */
public final class ThingsTest {
    private static final Check CHECK = new Check("ThingsTest");

    public static void main(String[] args) {
        newObject();
        typing();
        clearing();
        marketTellsAll();
        marketForgets();
        goodTexts();
        faults();
        faultsChangeNothing();
        thingsAndCounts();
        CHECK.end();
    }

    private static void newObject() {
        SelfScale x = new SelfScale();
        CHECK.due("new count(0)", x.count(0), 0);
        CHECK.due("new count(1)", x.count(1), 10);
        CHECK.due("new count(2)", x.count(2), 0);
        CHECK.due("new count(3)", x.count(3), 0);
        CHECK.due("new thing(3)", x.thing(3), 0);
        CHECK.due("new trace", x.trace(), 0);
        CHECK.due("new back(0)", x.back(0), SelfScale.STATE);
        CHECK.due("new back(1)", x.back(1), SelfScale.STATE);
        CHECK.due("new undo", x.undo(), SelfScale.STATE);
        CHECK.due("new could", x.could(-1, 9), 10);
    }

    private static void typing() {
        SelfScale x = new SelfScale();
        CHECK.due("n 0", x.type(1, 0), SelfScale.BAD);
        CHECK.due("n 9", x.type(1, 9), SelfScale.BAD);
        CHECK.due("n least", x.type(1, Integer.MIN_VALUE), SelfScale.BAD);
        CHECK.due("n most", x.type(1, Integer.MAX_VALUE), SelfScale.BAD);
        CHECK.due("bad changes nothing", x.count(3), 0);
        // Of "XXown 7;" only the lowest bytes, the highest of them first.
        CHECK.due("lowest 6", x.type(0x58586f776e20373bL, 6), 6);
        CHECK.due("own 7", x.market(), 1);
        CHECK.due("own", x.thing(3), 7);
        CHECK.due("minus", x.type(-1L, 8), 8);
        CHECK.due("a byte of 255", x.market(), -10);
        SelfScale y = new SelfScale();
        for (int k = 1; k <= 24; k++) {
            CHECK.due("eights", y.type(0x2020202020202020L, 8), 8 * k);
        }
        CHECK.due("seven", y.type(0x2020202020202020L, 7), 199);
        CHECK.due("two too many", y.type(0x2020L, 2), SelfScale.FULL);
        CHECK.due("bad ahead of full", y.type(0x2020L, 9), SelfScale.BAD);
        CHECK.due("full changes nothing", y.count(3), 199);
        CHECK.due("the last", y.type(0x20L, 1), 200);
        CHECK.due("full", y.type(0x20L, 1), SelfScale.FULL);
        CHECK.due("blanks alone", y.market(), 0);
        CHECK.due("empty then", y.count(3), 0);
        SelfScale z = new SelfScale();
        CHECK.due("full text", Check.type(z, "thing 1;" + " ".repeat(186) + "own 3;"), 200);
        CHECK.due("full text read", z.market(), 2);
        CHECK.due("own of the full text", z.thing(3), 3);
    }

    private static void clearing() {
        SelfScale x = Check.market("thing 4;own 2;");
        CHECK.due("nothing to clear", x.clear(), 0);
        Check.type(x, "own 5;own");
        CHECK.due("clear", x.clear(), 9);
        CHECK.due("clear again", x.clear(), 0);
        CHECK.due("text is empty", x.count(3), 0);
        CHECK.due("things stay", x.count(0), 1);
        CHECK.due("own stays", x.thing(3), 2);
        Check.type(x, "own 6;");
        CHECK.due("what was cleared is gone", x.market(), 1);
        CHECK.due("own", x.thing(3), 6);
    }

    private static void marketTellsAll() {
        SelfScale x = Check.market("figures 20;thing 9;own 9;thing 1;thing 5;");
        CHECK.due("things", x.count(0), 3);
        CHECK.due("figures", x.count(1), 20);
        CHECK.due("text", x.count(3), 0);
        CHECK.due("thing 0", x.thing(0), 9);
        CHECK.due("thing 1", x.thing(1), 1);
        CHECK.due("thing 2", x.thing(2), 5);
        CHECK.due("own", x.thing(3), 9);
        Check.type(x, "thing 2;");
        CHECK.due("one item", x.market(), 1);
        CHECK.due("one thing", x.count(0), 1);
        CHECK.due("thing 0 anew", x.thing(0), 2);
        CHECK.due("no thing 1", x.thing(1), SelfScale.BAD);
        CHECK.due("own at first", x.thing(3), 0);
        CHECK.due("figures at first", x.count(1), 10);
        CHECK.due("nothing told", x.market(), 0);
        CHECK.due("no things", x.count(0), 0);
    }

    private static void marketForgets() {
        SelfScale x = Check.market("thing 4;own 2;");
        x.weigh(1, 0, 1);
        x.keep(0);
        x.keep(1);
        x.mark(1, 0);
        CHECK.due("trace", x.trace(), 11);
        CHECK.due("could of one line", x.could(-1, 0), 9);
        Check.type(x, "thing 4;own 2;");
        CHECK.due("anew", x.market(), 2);
        CHECK.due("no lines", x.count(2), 0);
        CHECK.due("image 0 is gone", x.back(0), SelfScale.STATE);
        CHECK.due("image 1 is gone", x.back(1), SelfScale.STATE);
        CHECK.due("trace stays", x.trace(), 11);
        CHECK.due("could anew", x.could(-1, 0), 90);
    }

    private static void market(String text, int want) {
        SelfScale x = new SelfScale();
        Check.type(x, text);
        CHECK.due("market of '" + text + "'", x.market(), want);
        CHECK.due("text behind '" + text + "'", x.count(3), want < 0 ? text.length() : 0);
    }

    private static void goodTexts() {
        market("", 0);
        market("   ", 0);
        market("thing1;", 1);
        market("thing1;own0;figures2;", 3);
        market("  thing   9  ;  own  9 ;figures  20 ;  ", 3);
        market("own 0;", 1);
        market("own 9;", 1);
        market("figures 2;", 1);
        market("figures 20;", 1);
        market("thing 1;thing 9;thing 5;own 3;figures 11;", 5);
        market("thing 1;figures 11;thing 9;own 3;thing 5;", 5);
    }

    private static void faults() {
        market("thing", -15);
        market("thing  ", -17);
        market("thing 5", -17);
        market("thing 5 ", -18);
        market("thing 5;own", -21);
        market("thin", -10);
        market(" thin", -11);
        market("things 1;", -10);
        market("thingown 1;", -10);
        market("Thing 1;", -10);
        market("thinG 1;", -10);
        market("thingG 1;", -15);
        market("thing;", -15);
        market("thing ;", -16);
        market("thing thing", -16);
        market("thing own 1;", -16);
        market("thing 1 2;", -18);
        market("thing 1 own 2;", -18);
        market("thing1own2;", -16);
        market("thing 1;;", -18);
        market(";", -10);
        market("  ;", -12);
        market("7;", -10);
        market("thing 0;", -16);
        market("thing 10;", -16);
        market("thing 10", -16);
        market("thing 01;", -16);
        market("thing 00;", -16);
        market("thing 100;", -16);
        market("thing 99999999999999999999;", -16);
        market("own 10;", -14);
        market("own 00;", -14);
        market("own 1;own 1;", -16);
        market("figures 1;", -18);
        market("figures 0;", -18);
        market("figures 21;", -18);
        market("figures 020;", -18);
        market("figures 2;figures 3;", -20);
        market("thing 1;thing 1;thing 1;thing", -34);
        market("thing 1;thing 1;thing 1; thing 1;", -35);
        market("thing -1;", -16);
        market("thing 1.;", -17);
        market("thing\t1;", -15);
        market("\0", -10);
        market("thing 1;\u00ff", -18);
        market("own 3;thing 12;own 4;", -22);
        // The first in the text counts, not the first of a sort.
        market("thing 0;Thing", -16);
        market("thing 1;own 3;figures 1;own 2;", -32);
        market("thing" + " ".repeat(195), -210);
        market("own 1;" + " ".repeat(193) + "o", -209);
    }

    private static void faultsChangeNothing() {
        SelfScale x = Check.market("thing 4;thing 6;own 2;figures 7;");
        x.weigh(3, 1, 0);
        x.keep(1);
        int could = x.could(-1, 0);
        Check.type(x, "thing 1;own 5;figures 9;own 6;");
        CHECK.due("own told again", x.market(), -34);
        CHECK.due("own told again, asked again", x.market(), -34);
        CHECK.due("text stays", x.count(3), 30);
        CHECK.due("things stay", x.count(0), 2);
        CHECK.due("figures stay", x.count(1), 7);
        CHECK.due("lines stay", x.count(2), 1);
        CHECK.due("thing 0 stays", x.thing(0), 4);
        CHECK.due("own stays", x.thing(3), 2);
        CHECK.due("image stays", x.back(1), 1);
        CHECK.due("could stays", x.could(-1, 0), could);
    }

    private static void thingsAndCounts() {
        SelfScale x = Check.market("thing 4;thing 6;");
        CHECK.due("thing(-1)", x.thing(-1), SelfScale.BAD);
        CHECK.due("thing(0)", x.thing(0), 4);
        CHECK.due("thing(1)", x.thing(1), 6);
        CHECK.due("thing(2)", x.thing(2), SelfScale.BAD);
        CHECK.due("thing(3)", x.thing(3), 0);
        CHECK.due("thing(4)", x.thing(4), SelfScale.BAD);
        CHECK.due("thing(least)", x.thing(Integer.MIN_VALUE), SelfScale.BAD);
        CHECK.due("thing(most)", x.thing(Integer.MAX_VALUE), SelfScale.BAD);
        CHECK.due("count(-1)", x.count(-1), SelfScale.BAD);
        CHECK.due("count(0)", x.count(0), 2);
        CHECK.due("count(1)", x.count(1), 10);
        x.tell(0, 1, 1);
        x.tell(0, 1, 1);
        x.tell(0, 1, 1);
        CHECK.due("count(2)", x.count(2), 3);
        x.type(0, 5);
        CHECK.due("count(3)", x.count(3), 5);
        CHECK.due("count(4)", x.count(4), SelfScale.BAD);
    }
}
