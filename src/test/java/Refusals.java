import java.util.List;

/** Refused calls: each answers as is due, and the object it was asked of is then as one that was not asked. */
final class Refusals {
    /** A call on an object. */
    interface Call {
        long on(SelfScale x);
    }

    /** Makes the same object each time. */
    interface Start {
        SelfScale make();
    }

    private final Check check;
    private final Start start;
    private final List<String> untouched;

    Refusals(Check check, Start start) {
        this.check = check;
        this.start = start;
        untouched = View.of(start.make());
    }

    void due(String call, Call refused, long want) {
        SelfScale x = start.make();
        check.due(call, refused.on(x), want);
        isUntouched(call, x);
    }

    /** A call that asks is as one that is refused: it changes nothing, whatever it answers. */
    void asks(String call, Call asked) {
        SelfScale x = start.make();
        asked.on(x);
        isUntouched(call, x);
    }

    private void isUntouched(String call, SelfScale x) {
        List<String> after = View.of(x);
        for (int k = 0; k < untouched.size(); k++) {
            boolean isSame = after.get(k).equals(untouched.get(k));
            check.due("after " + call + ": " + after.get(k) + ", ahead of it: " + untouched.get(k), isSame ? 0 : 1, 0);
        }
    }

    /** The same call with a number that is not as told: each of these is BAD. */
    void bad(String call, NumberCall refused, int... numbers) {
        for (int number : numbers) {
            due(call + " with " + number, x -> refused.on(x, number), SelfScale.BAD);
        }
    }

    /** A call on an object with a number. */
    interface NumberCall {
        long on(SelfScale x, int number);
    }

    /** Three things, two lines and a third that fits, image 0 of the first two, marks, a text that is not yet whole. */
    static SelfScale busy() {
        SelfScale x = Check.market("thing 7;thing 3;thing 9;own 4;figures 11;");
        x.weigh(0, 0, 1);
        x.weigh(1, 1, 0);
        x.keep(0);
        x.tell(6, 5, 2);
        x.mark(5, 0);
        x.mark(3, 1);
        Check.type(x, "own 3;thing");
        x.could(-1, 0);
        return x;
    }

    /** Twelve lines that fit, image 1 of eleven, a text of 200 bytes. */
    static SelfScale full() {
        SelfScale x = Check.market("thing 7;thing 3;own 4;");
        for (int k = 0; k < 11; k++) {
            x.weigh(k % 4, k % 2, k / 2 % 2);
        }
        x.keep(1);
        x.weigh(3, 0, 0);
        Check.type(x, "thing 5;" + " ".repeat(186) + "own 3;");
        return x;
    }

    /** Two lines, one of them unheard, that no world fits. */
    static SelfScale torn() {
        SelfScale x = Check.market("thing 7;thing 3;own 4;");
        x.tell(0, 1, 2);
        x.tell(0, 5, 1);
        return x;
    }

    /** No lines, no things: as it is at first. */
    static SelfScale fresh() {
        return new SelfScale();
    }
}
