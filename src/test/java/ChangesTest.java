import java.util.ArrayList;
import java.util.List;

/** A call changes what the document tells of it and nothing else; one that asks changes nothing. */
public final class ChangesTest {
    private static final Check CHECK = new Check("ChangesTest");

    public static void main(String[] args) {
        asked("busy", Refusals::busy);
        asked("full", Refusals::full);
        asked("torn", Refusals::torn);
        asked("fresh", Refusals::fresh);
        typed();
        cleared();
        market("busy", Refusals::busy);
        market("full", Refusals::full);
        market("torn", Refusals::torn);
        weighed();
        told();
        undone();
        marked();
        kept();
        backAsKept();
        CHECK.end();
    }

    /** What is asked for: of a thing, line or image that isn't there, too. */
    private static void asked(String name, Refusals.Start start) {
        CHECK.of("Promises 5, 8, 10 to 18, 22, 23: of a " + name + " object");
        Refusals same = new Refusals(CHECK, start);
        for (int number = 0; number <= 3; number++) {
            int i = number;
            same.asks("thing", x -> x.thing(i));
            same.asks("line", x -> x.line(i, 1));
            same.asks("could", x -> x.could(i, 5));
            same.asks("sure", x -> x.sure(i));
            same.asks("fewest", x -> x.fewest(i));
            same.asks("laugh", x -> x.laugh(i));
            same.asks("odds", x -> x.odds(i, 1, 3, 1));
            same.asks("count", x -> x.count(i));
        }
        for (int number = 0; number <= 1; number++) {
            int what = number;
            same.asks("wrong", x -> x.wrong(what));
            same.asks("next", x -> x.next(what));
        }
        same.asks("could of all", x -> x.could(-1, 0));
        same.asks("sack", x -> x.sack(4, 0));
        same.asks("byTurns", x -> x.byTurns());
        same.asks("trace", x -> x.trace());
    }

    private static void alike(String call, List<String> got, List<String> want) {
        CHECK.due(call + ": how much can be asked", got.size(), want.size());
        for (int k = 0; k < Math.min(got.size(), want.size()); k++) {
            boolean isSame = got.get(k).equals(want.get(k));
            CHECK.due(call + ": " + got.get(k) + ", of its like: " + want.get(k), isSame ? 0 : 1, 0);
        }
    }

    private static void typed() {
        CHECK.of("Promise 2: The lowest n bytes come to THE TEXT");
        SelfScale x = Refusals.busy();
        x.type(';', 1);
        x.type('t', 8);
        x.clear();
        SelfScale like = Refusals.busy();
        like.clear();
        alike("type", View.of(x), View.of(like));
    }

    private static void cleared() {
        CHECK.of("Promise 3: THE TEXT is empty");
        SelfScale x = Refusals.busy();
        x.clear();
        Check.type(x, "own 3;thing");
        alike("clear", View.of(x), View.of(Refusals.busy()));
    }

    private static void market(String name, Refusals.Start start) {
        CHECK.of("Promise 4: THE TEXT tells all: of a " + name + " object");
        SelfScale x = start.make();
        x.clear();
        Check.type(x, "figures 7;thing 2;thing 8;");
        x.market();
        alike("market", withoutTrace(x), withoutTrace(Check.market("figures 7;thing 2;thing 8;")));
    }

    private static List<String> withoutTrace(SelfScale x) {
        List<String> answers = new ArrayList<>();
        for (String answer : View.of(x)) {
            if (!answer.startsWith("trace")) {
                answers.add(answer);
            }
        }
        return answers;
    }

    private static void weighed() {
        CHECK.of("Promise 6: It comes into THE BOOK");
        for (int set = 0; set <= 7; set++) {
            for (int laughs = 0; laughs <= 1; laughs++) {
                SelfScale heard = Refusals.busy();
                SelfScale heardLike = Refusals.busy();
                heardLike.tell(set, heard.weigh(set, laughs, 1), laughs);
                alike("weigh, heard", View.of(heard), View.of(heardLike));
                SelfScale unheard = Refusals.busy();
                SelfScale unheardLike = Refusals.busy();
                unheardLike.tell(set, unheard.weigh(set, laughs, 0), 2);
                alike("weigh, not heard", View.of(unheard), View.of(unheardLike));
            }
        }
    }

    private static void told() {
        CHECK.of("Promise 7: A LINE is TOLD");
        for (int set = 0; set <= 7; set++) {
            for (int laugh = 0; laugh <= 2; laugh++) {
                SelfScale x = Refusals.busy();
                x.tell(set, 10, laugh);
                x.could(-1, 0);
                x.undo();
                alike("tell and undo", View.of(x), View.of(Refusals.busy()));
            }
        }
    }

    private static void undone() {
        CHECK.of("Promise 9: UNDONE: the latest LINE");
        SelfScale x = Refusals.busy();
        x.undo();
        x.tell(6, 5, 2);
        alike("undo and tell", View.of(x), View.of(Refusals.busy()));
        SelfScale full = Refusals.full();
        full.undo();
        full.weigh(3, 0, 0);
        alike("undo and weigh", View.of(full), View.of(Refusals.full()));
    }

    private static void marked() {
        CHECK.of("Promise 19: numbers come to THE TRACE");
        List<String> untouched = withoutTrace(Refusals.busy());
        for (int kind = 0; kind <= 5; kind++) {
            for (int i = 0; i <= 2; i++) {
                SelfScale x = Refusals.busy();
                x.mark(kind, i);
                alike("mark", withoutTrace(x), untouched);
            }
        }
    }

    private static void kept() {
        CHECK.of("Promise 20: An IMAGE is kept");
        for (int image = 0; image <= 1; image++) {
            SelfScale x = Refusals.busy();
            x.keep(image);
            List<String> got = View.of(x);
            List<String> want = View.of(Refusals.busy());
            int images = placeOf("back(0)", want);
            int text = placeOf("type", want);
            alike("keep, ahead of the images", got.subList(0, images), want.subList(0, images));
            alike("keep, behind the images", got.subList(text, got.size()), want.subList(text, want.size()));
        }
    }

    private static int placeOf(String call, List<String> answers) {
        int place = 0;
        while (place < answers.size() && !answers.get(place).startsWith(call)) {
            place++;
        }
        CHECK.due("a place of " + call, place > 0 && place < answers.size() ? 1 : 0, 1);
        return place;
    }

    private static void backAsKept() {
        CHECK.of("Promise 21: All of that becomes as an IMAGE has it");
        SelfScale x = Refusals.busy();
        x.back(0);
        SelfScale like = Refusals.busy();
        like.undo();
        alike("back to fewer", View.of(x), View.of(like));
        SelfScale full = Refusals.full();
        full.undo();
        full.undo();
        full.back(1);
        SelfScale fullLike = Refusals.full();
        fullLike.undo();
        alike("back to more", View.of(full), View.of(fullLike));
        SelfScale torn = Refusals.torn();
        torn.keep(1);
        torn.undo();
        torn.could(-1, 0);
        torn.back(1);
        SelfScale tornLike = Refusals.torn();
        tornLike.keep(1);
        alike("back to what none fits", View.of(torn), View.of(tornLike));
    }
}
