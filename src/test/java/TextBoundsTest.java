/** Bounds of the things, the scale and the text: the Terms ahead of the book, promises 1 to 5 and 22. */
public final class TextBoundsTest {
    private static final Check CHECK = new Check("TextBoundsTest");
    private static final int[] FAR = {Integer.MIN_VALUE, Integer.MIN_VALUE + 1, -10, -2, Integer.MAX_VALUE};

    public static void main(String[] args) {
        newObject();
        thingsAtMost();
        thingsWeigh();
        ownWeighs();
        figuresAre();
        bytesAtMost();
        blanks();
        noneNeeded();
        itemsNone();
        itemsEnded();
        onceEach();
        letters();
        digits();
        stops();
        firstToken();
        fourthThing();
        toldAgain();
        numberBeyond();
        byteThatBeginsNone();
        wordThatIsNone();
        numberAbove99();
        zeroAhead();
        endsTooEarly();
        faultChangesNothing();
        readAnew();
        empty();
        howManyItems();
        typedBytes();
        typeBad();
        typeFull();
        typeBadAheadOfFull();
        clearEmpty();
        thingBad();
        countEnds();
        countBad();
        CHECK.end();
    }

    private static void market(String text, int want) {
        SelfScale x = new SelfScale();
        Check.type(x, text);
        CHECK.due("market of '" + text + "'", x.market(), want);
        CHECK.due("bytes after market of '" + text + "'", x.count(3), want < 0 ? text.length() : 0);
    }

    private static void newObject() {
        CHECK.of("Promise 1: As told; no THINGS");
        SelfScale x = new SelfScale();
        CHECK.due("count(0)", x.count(0), 0);
        CHECK.due("count(1)", x.count(1), 10);
        CHECK.due("count(2)", x.count(2), 0);
        CHECK.due("count(3)", x.count(3), 0);
        CHECK.due("thing(0)", x.thing(0), SelfScale.BAD);
        CHECK.due("thing(3)", x.thing(3), 0);
        CHECK.due("line(0, 0)", x.line(0, 0), SelfScale.BAD);
        CHECK.due("back(0)", x.back(0), SelfScale.STATE);
        CHECK.due("back(1)", x.back(1), SelfScale.STATE);
        CHECK.due("trace()", x.trace(), 0);
    }

    private static void thingsAtMost() {
        CHECK.of("THINGS 0 .. (3 at most)");
        StringBuilder text = new StringBuilder();
        for (int things = 0; things <= 3; things++) {
            SelfScale x = Check.market(text.toString());
            CHECK.due("count(0)", x.count(0), things);
            text.append("thing ").append(things + 4).append(';');
            for (int i = 0; i <= 2; i++) {
                CHECK.due("thing(" + i + ") of " + things, x.thing(i), i < things ? i + 4 : SelfScale.BAD);
            }
        }
        market(text.toString(), -10 - 24);
    }

    private static void thingsWeigh() {
        CHECK.of("weigh 1 .. 9");
        for (int w = 1; w <= 9; w++) {
            CHECK.due("thing(0)", Check.market("thing " + w + ";").thing(0), w);
            CHECK.due("thing(2)", Check.market("thing 1;thing 1;thing " + w + ";").thing(2), w);
        }
        market("thing 0;", -16);
        market("thing 10;", -16);
        market("thing 99;", -16);
    }

    private static void ownWeighs() {
        CHECK.of("OWN weight is 0 .. 9 (0 at first)");
        for (int w = 0; w <= 9; w++) {
            CHECK.due("thing(3)", Check.market("own " + w + ";").thing(3), w);
        }
        market("own 10;", -14);
        market("own 99;", -14);
        CHECK.due("thing(3) at first", new SelfScale().thing(3), 0);
        SelfScale x = Check.market("own 9;");
        Check.type(x, "thing 3;");
        CHECK.due("market that doesn't tell own", x.market(), 1);
        CHECK.due("thing(3) not told", x.thing(3), 0);
    }

    private static void figuresAre() {
        CHECK.of("FIGURES (2 .. 20; 10 at first)");
        for (int m = 2; m <= 20; m++) {
            CHECK.due("count(1)", Check.market("figures " + m + ";").count(1), m);
        }
        market("figures 0;", -18);
        market("figures 1;", -18);
        market("figures 21;", -18);
        market("figures 99;", -18);
        CHECK.due("count(1) at first", new SelfScale().count(1), 10);
        SelfScale x = Check.market("figures 20;");
        Check.type(x, "thing 3;");
        CHECK.due("market that doesn't tell figures", x.market(), 1);
        CHECK.due("count(1) not told", x.count(1), 10);
    }

    private static void bytesAtMost() {
        CHECK.of("a text (200 bytes at most)");
        String text = "thing 5;" + " ".repeat(185) + "own 3;";
        SelfScale x = new SelfScale();
        CHECK.due("199 bytes", Check.type(x, text), 199);
        CHECK.due("one more", x.type(' ', 1), 200);
        CHECK.due("one too many", x.type(' ', 1), SelfScale.FULL);
        CHECK.due("still 200", x.count(3), 200);
        CHECK.due("market", x.market(), 2);
        CHECK.due("thing(0)", x.thing(0), 5);
        CHECK.due("thing(3)", x.thing(3), 3);
    }

    private static void blanks() {
        CHECK.of("blanks (32) ahead of, between and behind TOKENS as may be");
        market("   thing   1   ;   own   2   ;   ", 2);
        market(" thing 1;", 1);
        market("thing  1;", 1);
        market("thing 1 ;", 1);
        market("thing 1; ", 1);
        for (int sign : new int[] {0, 9, 10, 13, 31, 33, 127, 160, 255}) {
            market((char) sign + "thing 1;", -10);
            market("thing" + (char) sign + "1;", -15);
            market("thing 1" + (char) sign + ";", -17);
            market("thing 1;" + (char) sign, -18);
        }
        // A blank inside a token parts it.
        market("th ing 1;", -10);
        market("figures 1 0;", -18);
    }

    private static void noneNeeded() {
        CHECK.of("(none needed where TOKENS end without)");
        market("thing1;own2;figures3;thing4;", 4);
        market("thingown 1;", -10);
        market("thing11;", -15);
    }

    private static void itemsNone() {
        CHECK.of("ITEMS (none, too)");
        market("", 0);
        market(" ", 0);
        market(" ".repeat(200), 0);
    }

    private static void itemsEnded() {
        CHECK.of("each ended by ;");
        market("thing 1", -17);
        market("thing 1 thing 2;", -18);
        market("thing 1;thing 2", -25);
        market(";", -10);
        market("thing 1;;", -18);
        market("thing;1", -15);
        market("thing 1 2;", -18);
    }

    private static void onceEach() {
        CHECK.of("own V, figures M (once each at most)");
        market("thing 1;", 1);
        market("own 1;", 1);
        market("figures 3;", 1);
        market("own 1;figures 3;", 2);
        market("figures 3;own 1;", 2);
        market("own 1;own 1;", -16);
        market("figures 3;figures 3;", -20);
    }

    private static void letters() {
        CHECK.of("words of letters a .. z");
        for (char sign : new char[] {'`', '{', 'A', 'Z', '@', '[', '_', (char) 225}) {
            market(sign + "", -10);
            market("own" + sign + " 1;", -13);
        }
        market("a", -10);
        market("z", -10);
        // These are letters: the word goes on, and is none of those.
        market("owna 1;", -10);
        market("ownz 1;", -10);
        market("Own 1;", -10);
        market("oWn 1;", -10);
        market("own 1;OWN 1;", -16);
    }

    private static void digits() {
        CHECK.of("NUMBERS");
        for (int digit = 0; digit <= 9; digit++) {
            market("own " + digit + ";", 1);
            market("figures 1" + digit + ";", 1);
        }
        for (char sign : new char[] {'/', ':', '-', '+', '.', (char) 178}) {
            market("own " + sign + ";", -14);
            market("own 1" + sign + ";", -15);
        }
    }

    private static void stops() {
        CHECK.of("and ; .");
        for (char sign : new char[] {',', '.', ':', '<', '\n', (char) 187}) {
            market("own 1" + sign, -15);
            market("own 1 " + sign, -16);
        }
        market("own 1;", 1);
    }

    private static void firstToken() {
        CHECK.of("the place of the first byte of the first TOKEN that can't stand there");
        market("thing figures 1;", -16);
        market("   figures", -20);
        market("12 thing 1;", -10);
        market("thing 1;12;", -18);
        market("thing 1 figures 2;", -18);
        market("thing thing", -16);
        market("thing;", -15);
        market("thing  ;", -17);
        // Of two faults the first one.
        market("thing 0;own 10;", -16);
        market("own 10;thing 0;", -14);
        market("own 1;own 2;?", -16);
        market("?own 1;own 2;", -10);
    }

    private static void fourthThing() {
        CHECK.of("(a fourth thing");
        market("thing 1;thing 2;thing 3;", 3);
        market("thing 1;thing 2;thing 3;own 4;figures 5;", 5);
        market("thing 1;thing 2;thing 3;thing 4;", -34);
        market("thing 1;thing 2;thing 3;thing", -34);
        market("thing 1;thing 2;thing 3;own 4;figures 5; thing 4;", -10 - 41);
    }

    private static void toldAgain() {
        CHECK.of("own or figures told again");
        market("own 0;own 0;", -16);
        market("own 1;thing 2; own 1;", -25);
        market("own 1;own", -16);
        market("figures 10;figures 10;", -21);
        market("figures 2;thing 2; figures 2;", -29);
        market("figures 2;figures", -20);
    }

    private static void numberBeyond() {
        CHECK.of("a NUMBER beyond what it may be, too)");
        market("thing   0;", -18);
        market("thing 10", -16);
        market("own 10;", -14);
        market("figures 1;", -18);
        market("figures 21", -18);
        // What may be for one is beyond for another.
        market("thing 1;own 0;figures 20;", 3);
        market("thing 20;", -16);
        market("own 20;", -14);
    }

    private static void byteThatBeginsNone() {
        CHECK.of("of a byte that begins none");
        for (int sign = 0; sign <= 255; sign++) {
            boolean begins = sign == ' ' || sign == ';' || sign >= '0' && sign <= '9' || sign >= 'a' && sign <= 'z';
            if (!begins) {
                market(" " + (char) sign, -11);
            }
        }
    }

    private static void wordThatIsNone() {
        CHECK.of("a word that is none of these");
        String[] words = {"t", "thin", "things", "hing", "o", "ow", "owns", "wn", "figure", "figuress", "igures", "x",
            "thinj", "phing", "figurez"};
        for (String word : words) {
            market(" " + word + " 2;", -11);
            market("own " + word + ";", -14);
            market("own 2" + word, -15);
        }
        // What stands ahead in the text counts: the scale's words are whole ones.
        market("own 2;" + "a".repeat(194), -16);
    }

    private static void numberAbove99() {
        CHECK.of("a NUMBER above 99");
        // The last ones would be 1 and 2 again, if they ran over 32 or 64 bits.
        String[] numbers = {"100", "101", "199", "999", "1000", "4294967297", "4294967298", "18446744073709551617",
            "18446744073709551618"};
        for (String number : numbers) {
            market("thing  " + number + ";", -17);
            market("own " + number + ";", -14);
            market("figures " + number + ";", -18);
        }
        market("own 2;" + "9".repeat(194), -16);
    }

    private static void zeroAhead() {
        CHECK.of("or with a 0 ahead of others");
        String[] numbers = {"00", "01", "02", "09", "010", "000"};
        for (String number : numbers) {
            market("thing " + number + ";", -16);
            market("own " + number + ";", -14);
            market("figures " + number + ";", -18);
        }
        market("own 0;", 1);
        market("figures 10;", 1);
    }

    private static void endsTooEarly() {
        CHECK.of("the text's length, if it ends too early");
        String text = " thing 5 ;own3;  figures 12; ";
        int[] faults = {0, 0, 1, 1, 1, 1, 6, 7, 8, 9, 0, 10, 10, 13, 14, 0, 0, 0, 17, 17, 17, 17, 17, 17, 24, 25, 25, 27};
        for (int length = 0; length < faults.length; length++) {
            boolean isWhole = length < 2 || length == 10 || length >= 15 && length <= 17;
            int items = length < 10 ? 0 : length < 15 ? 1 : 2;
            market(text.substring(0, length), isWhole ? items : -10 - faults[length]);
        }
        market("thing 5 " + " ".repeat(192), -210);
        market("thing" + " ".repeat(195), -210);
        market("thing 5" + " ".repeat(192) + ";", 1);
        market("thing 5" + " ".repeat(192) + "5", -209);
    }

    private static void faultChangesNothing() {
        CHECK.of("-10 less FAULT: nothing changes (THE TEXT, too, stays)");
        new Refusals(CHECK, Refusals::busy).due("market()", SelfScale::market, -21);
        Refusals longer = new Refusals(CHECK, () -> {
            SelfScale x = Refusals.busy();
            Check.type(x, " 2;thing 3;figures 2;own 1");
            return x;
        });
        longer.due("market() with own told again", SelfScale::market, -10 - 32);
        longer.due("market() twice", x -> x.market() == x.market() ? 1 : 0, 1);
        // The fault mended, all of the text counts.
        SelfScale x = Check.market("thing 7;");
        Check.type(x, "own 3;thing");
        CHECK.due("too early", x.market(), -21);
        Check.type(x, " 5;");
        CHECK.due("whole", x.market(), 2);
        CHECK.due("own", x.thing(3), 3);
        CHECK.due("thing(0)", x.thing(0), 5);
    }

    private static void readAnew() {
        CHECK.of("(Read anew: no LINES; IMAGES are gone; THE TRACE stays.)");
        SelfScale x = Check.market("thing 7;own 4;");
        x.weigh(1, 0, 1);
        x.keep(0);
        x.keep(1);
        x.mark(2, 0);
        CHECK.due("could of one line", x.could(-1, 0), 9);
        Check.type(x, "thing 7;own 4;");
        CHECK.due("market()", x.market(), 2);
        CHECK.due("count(2)", x.count(2), 0);
        CHECK.due("line(0, 0)", x.line(0, 0), SelfScale.BAD);
        CHECK.due("undo()", x.undo(), SelfScale.STATE);
        CHECK.due("back(0)", x.back(0), SelfScale.STATE);
        CHECK.due("back(1)", x.back(1), SelfScale.STATE);
        CHECK.due("could of none", x.could(-1, 0), 90);
        CHECK.due("trace()", x.trace(), 101);
        CHECK.due("mark(2, 0)", x.mark(2, 0), 14);
        CHECK.due("trace() of both", x.trace(), 202);
    }

    private static void empty() {
        CHECK.of("THE TEXT tells all, and is empty then");
        SelfScale x = Refusals.full();
        CHECK.due("market() of 200 bytes", x.market(), 2);
        CHECK.due("count(3)", x.count(3), 0);
        CHECK.due("one thing for two", x.count(0), 1);
        CHECK.due("market() of none", x.market(), 0);
        CHECK.due("things", x.count(0), 0);
        CHECK.due("own", x.thing(3), 0);
        CHECK.due("figures", x.count(1), 10);
        CHECK.due("clear()", x.clear(), 0);
        CHECK.due("a new text", Check.type(x, " ".repeat(200)), 200);
    }

    private static void howManyItems() {
        CHECK.of("how many ITEMS");
        market("", 0);
        market("own 1;", 1);
        market("own 1;figures 9;thing 1;", 3);
        market("own 1;figures 9;thing 1;thing 9;thing 9;", 5);
    }

    private static void typedBytes() {
        CHECK.of("The lowest n (1 .. 8) bytes of v, the highest of them first");
        SelfScale x = new SelfScale();
        for (int n = 1; n <= 8; n++) {
            CHECK.due("n " + n, x.type(-1, n), n * (n + 1) / 2);
        }
        // Of eight bytes each stands at its place, the other ones above n are not looked at.
        String text = "figures 13;";
        for (int n = 1; n <= 8; n++) {
            SelfScale y = new SelfScale();
            for (int at = 0; at < text.length(); at += n) {
                int end = Math.min(text.length(), at + n);
                long v = -1L;
                for (int k = at; k < end; k++) {
                    v = v << 8 | text.charAt(k);
                }
                CHECK.due("type by " + n, y.type(v, end - at), end);
            }
            CHECK.due("market() by " + n, y.market(), 1);
            CHECK.due("figures by " + n, y.count(1), 13);
        }
        SelfScale z = new SelfScale();
        CHECK.due("the highest byte of all, too", z.type(0xff20202020202020L, 8), 8);
        CHECK.due("a byte of 255", z.market(), -10);
        SelfScale u = new SelfScale();
        CHECK.due("least long", u.type(Long.MIN_VALUE, 8), 8);
        CHECK.due("a byte of 128", u.market(), -10);
        SelfScale v = new SelfScale();
        CHECK.due("seven of the least long", v.type(Long.MIN_VALUE | 0x20202020202020L, 7), 7);
        CHECK.due("seven blanks", v.market(), 0);
    }

    private static void typeBad() {
        CHECK.of("Promise 2: BAD");
        Refusals refusals = new Refusals(CHECK, Refusals::busy);
        refusals.bad("type(32, n)", (x, n) -> x.type(32, n), FAR);
        refusals.bad("type(32, n)", (x, n) -> x.type(32, n), -1, 0, 9, 10, 16);
        refusals.due("type(most, 0)", x -> x.type(Long.MAX_VALUE, 0), SelfScale.BAD);
        refusals.due("type(least, 9)", x -> x.type(Long.MIN_VALUE, 9), SelfScale.BAD);
    }

    private static void typeFull() {
        CHECK.of("Promise 2: FULL");
        Refusals refusals = new Refusals(CHECK, Refusals::full);
        for (int n = 1; n <= 8; n++) {
            int bytes = n;
            refusals.due("type at 200 by " + n, x -> x.type(0x3b3b3b3b3b3b3b3bL, bytes), SelfScale.FULL);
        }
        for (int room = 0; room < 8; room++) {
            // None of the bytes comes, if not all can.
            SelfScale x = new SelfScale();
            Check.type(x, " ".repeat(200 - room));
            for (int n = 8; n > room; n--) {
                CHECK.due("room " + room + ", n " + n, x.type(-1, n), SelfScale.FULL);
            }
            CHECK.due("bytes with room " + room, x.count(3), 200 - room);
            if (room > 0) {
                CHECK.due("room and n " + room, x.type(0x2020202020202020L, room), 200);
            }
            CHECK.due("blanks alone, room " + room, x.market(), 0);
        }
    }

    private static void typeBadAheadOfFull() {
        CHECK.of("the first of these: BAD .., STATE .., FULL: type");
        Refusals refusals = new Refusals(CHECK, Refusals::full);
        refusals.bad("type(32, n) at 200", (x, n) -> x.type(32, n), FAR);
        refusals.bad("type(32, n) at 200", (x, n) -> x.type(32, n), -1, 0, 9, 200);
    }

    private static void clearEmpty() {
        CHECK.of("Promise 3: THE TEXT is empty: how many bytes it had");
        SelfScale x = new SelfScale();
        CHECK.due("none", x.clear(), 0);
        x.type(';', 1);
        CHECK.due("one", x.clear(), 1);
        CHECK.due("none again", x.clear(), 0);
        Check.type(x, ";".repeat(200));
        CHECK.due("all", x.clear(), 200);
        CHECK.due("count(3)", x.count(3), 0);
        CHECK.due("200 anew", Check.type(x, " ".repeat(200)), 200);
        CHECK.due("nothing of the old ones", x.market(), 0);
    }

    private static void thingBad() {
        CHECK.of("Promise 5: What a THING weighs (3: OWN). BAD.");
        String[] texts = {"own 8;", "thing 4;own 8;", "thing 4;thing 5;own 8;", "thing 4;thing 5;thing 6;own 8;"};
        for (int things = 0; things <= 3; things++) {
            String text = texts[things];
            SelfScale x = Check.market(text);
            for (int i = 0; i <= 2; i++) {
                CHECK.due("thing(" + i + ") of " + text, x.thing(i), i < things ? 4 + i : SelfScale.BAD);
            }
            CHECK.due("thing(3) of " + text, x.thing(3), 8);
            Refusals refusals = new Refusals(CHECK, () -> Check.market(text));
            refusals.bad("thing(i) of " + text, SelfScale::thing, FAR);
            refusals.bad("thing(i) of " + text, SelfScale::thing, -1, 4, 5);
        }
    }

    private static void countEnds() {
        CHECK.of("Promise 22: 0 THINGS, 1 FIGURES, 2 LINES, 3 bytes of THE TEXT");
        SelfScale x = new SelfScale();
        long[] least = {0, 10, 0, 0};
        SelfScale y = Check.market("thing 1;thing 1;thing 1;figures 20;");
        for (int k = 0; k < 12; k++) {
            y.tell(0, 0, 0);
        }
        Check.type(y, ";".repeat(200));
        long[] most = {3, 20, 12, 200};
        SelfScale z = Check.market("figures 2;");
        long[] few = {0, 2, 0, 0};
        for (int what = 0; what <= 3; what++) {
            CHECK.due("new count(" + what + ")", x.count(what), least[what]);
            CHECK.due("full count(" + what + ")", y.count(what), most[what]);
            CHECK.due("least count(" + what + ")", z.count(what), few[what]);
        }
    }

    private static void countBad() {
        CHECK.of("Promise 22: BAD");
        Refusals refusals = new Refusals(CHECK, Refusals::busy);
        refusals.bad("count(what)", SelfScale::count, FAR);
        refusals.bad("count(what)", SelfScale::count, -1, 4, 5);
    }
}
