/** Long runs of calls, drawn by a fixed rule, on SelfScale and on the Model: all answers are the same. */
public final class ModelTest {
    private static final String[] WORDS = {"thing", "thing", "thing", "own", "figures"};
    private static final String[] ODD = {"x", "Thing", "own", "100", "01", "00", ";", "7", "-1", "\t", "\0", "\u00c8", "thingown", "0", "21", ""};

    private final Check check = new Check("ModelTest");
    private long seed;
    private SelfScale x;
    private Model m;
    private int run;

    public static void main(String[] args) {
        ModelTest test = new ModelTest();
        for (int run = 0; run < 260; run++) {
            test.run(run);
        }
        test.check.end();
    }

    private int draw(int bound) {
        seed = seed * 6364136223846793005L + 1442695040888963407L;
        return (int) ((seed >>> 33) % bound);
    }

    private int draw(int least, int most) {
        return least + draw(most - least + 1);
    }

    private void run(int number) {
        run = number;
        seed = number * 7919L + 17;
        x = new SelfScale();
        m = new Model();
        for (int call = 0; call < 12; call++) {
            ask();
        }
        for (int part = 0; part < 3; part++) {
            market();
            for (int call = 0; call < 30; call++) {
                ask();
            }
        }
        for (int what = -1; what <= 4; what++) {
            due("count " + what, x.count(what), m.count(what));
        }
    }

    private void due(String call, long got, long want) {
        check.due("run " + run + " " + call, got, want);
    }

    /** By one byte and more at a time; what stands above the bytes that come to the text is anything. */
    private void type(String text) {
        int at = 0;
        while (at < text.length()) {
            int n = Math.min(draw(1, 8), text.length() - at);
            long v = draw(1 << 30);
            for (int k = 0; k < n; k++) {
                v = v << 8 | text.charAt(at + k) & 255;
            }
            due("type " + v + " " + n, x.type(v, n), m.type(v, n));
            at += n;
        }
    }

    private String blanks() {
        return draw(4) == 0 ? "  ".substring(draw(2)) : "";
    }

    private void market() {
        int items = draw(6);
        boolean isOdd = draw(4) == 0;
        for (int k = 0; k < items; k++) {
            String word = WORDS[draw(WORDS.length)];
            int most = word.equals("figures") ? 20 : 9;
            int least = word.equals("figures") ? 2 : word.equals("own") ? 0 : 1;
            String number = String.valueOf(draw(least, most));
            String stop = ";";
            if (isOdd && draw(6) == 0) {
                String odd = ODD[draw(ODD.length)];
                switch (draw(3)) {
                    case 0 -> word = odd;
                    case 1 -> number = odd;
                    default -> stop = odd;
                }
            }
            type(blanks() + word + blanks() + number + blanks() + stop + blanks());
        }
        int answer = m.market();
        due("market", x.market(), answer);
        if (answer < 0) {
            due("count 3", x.count(3), m.count(3));
            due("clear", x.clear(), m.clear());
        }
    }

    private void ask() {
        int i = draw(-2, 4);
        int what = draw(-1, 2);
        int k = draw(-1, 12);
        int set = draw(8) == 0 ? draw(-1, 8) : draw(1 << m.count(0));
        switch (draw(26)) {
            case 0, 1, 2, 3, 4 -> weigh(set);
            case 5, 6 -> tell(set);
            case 7 -> due("line", x.line(k, draw(3)), m.line(k, lastDrawn(3)));
            case 8 -> due("undo", x.undo(), m.undo());
            case 9, 10 -> could(i);
            case 11, 12 -> sure();
            case 13, 14 -> wrong(what);
            case 15 -> due("next " + what, x.next(what), m.next(what));
            case 16 -> due("fewest " + i, x.fewest(i), m.fewest(i));
            case 17 -> due("laugh " + k, x.laugh(k), m.laugh(k));
            case 18, 19 -> odds();
            case 20 -> sack();
            case 21 -> due("byTurns", x.byTurns(), m.byTurns());
            case 22 -> mark(draw(-1, 6), draw(-1, 3));
            case 23 -> due("keep " + what, x.keep(what), m.keep(what));
            case 24 -> due("back " + what, x.back(what), m.back(what));
            default -> due("thing " + i, x.thing(i), m.thing(i));
        }
    }

    private int lastDrawn(int bound) {
        return (int) ((seed >>> 33) % bound);
    }

    private void weigh(int set) {
        int laughs = draw(20) == 0 ? draw(-1, 2) : draw(2);
        int heard = draw(20) == 0 ? draw(-1, 2) : draw(2);
        due("weigh " + set + " " + laughs + " " + heard, x.weigh(set, laughs, heard), m.weigh(set, laughs, heard));
    }

    private void tell(int set) {
        int shown = draw(12) == 0 ? draw(-1, 20) : draw(m.count(1));
        int laugh = draw(12) == 0 ? draw(-1, 3) : draw(3);
        due("tell " + set + " " + shown + " " + laugh, x.tell(set, shown, laugh), m.tell(set, shown, laugh));
    }

    private void could(int i) {
        int w = draw(-1, 10);
        due("could " + i + " " + w, x.could(i, w), m.could(i, w));
        due("could -1", x.could(-1, 0), m.could(-1, 0));
    }

    private void sure() {
        for (int i = -1; i <= 4; i++) {
            due("sure " + i, x.sure(i), m.sure(i));
        }
    }

    private void wrong(int what) {
        due("wrong " + what, x.wrong(what), m.wrong(what));
        due("wrong 1", x.wrong(1), m.wrong(1));
    }

    private void odds() {
        int a = draw(0, 5);
        int b = draw(1, 10);
        for (int k = -1; k <= m.count(2); k++) {
            String call = "odds " + k + " " + a + " " + b;
            due(call + " upper", x.odds(k, a, b, 0), m.odds(k, a, b, 0));
            due(call + " lower", x.odds(k, a, b, 1), m.odds(k, a, b, 1));
            due("laugh " + k, x.laugh(k), m.laugh(k));
        }
    }

    private void sack() {
        int weight = draw(-1, 28);
        for (int what = -1; what <= 3; what++) {
            due("sack " + weight + " " + what, x.sack(weight, what), m.sack(weight, what));
        }
    }

    private void mark(int kind, int i) {
        due("mark " + kind + " " + i, x.mark(kind, i), m.mark(kind, i));
        due("trace", x.trace(), m.trace());
    }
}
