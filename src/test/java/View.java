import java.util.ArrayList;
import java.util.List;

/** All that can be asked of an object (some 350 calls); the last questions change it. */
final class View {
    private final SelfScale x;
    private final List<String> answers = new ArrayList<>();

    private View(SelfScale x) {
        this.x = x;
    }

    static List<String> of(SelfScale x) {
        View view = new View(x);
        view.scale();
        view.book();
        view.couldBe();
        view.sacks();
        view.kinds();
        view.images();
        view.text();
        return view.answers;
    }

    private void saw(String call, long answer) {
        answers.add(call + " = " + answer);
    }

    private void scale() {
        for (int what = 0; what <= 3; what++) {
            saw("count(" + what + ")", x.count(what));
        }
        for (int i = 0; i <= 3; i++) {
            saw("thing(" + i + ")", x.thing(i));
        }
    }

    private void book() {
        saw("lines", x.count(2));
        for (int k = 0; k < 12; k++) {
            for (int what = 0; what <= 2; what++) {
                saw("line(" + k + ", " + what + ")", x.line(k, what));
            }
        }
    }

    private void couldBe() {
        saw("could(-1, 0)", x.could(-1, 0));
        for (int i = 0; i <= 3; i++) {
            for (int w = 0; w <= 9; w++) {
                saw("could(" + i + ", " + w + ")", x.could(i, w));
            }
            saw("sure(" + i + ")", x.sure(i));
            saw("fewest(" + i + ")", x.fewest(i));
        }
        for (int what = 0; what <= 1; what++) {
            saw("wrong(" + what + ")", x.wrong(what));
            saw("next(" + what + ")", x.next(what));
        }
        for (int k = 0; k < 12; k++) {
            saw("laugh(" + k + ")", x.laugh(k));
            saw("odds(" + k + ", 1, 3, 0)", x.odds(k, 1, 3, 0));
            saw("odds(" + k + ", 1, 3, 1)", x.odds(k, 1, 3, 1));
        }
    }

    private void sacks() {
        for (int weight = 0; weight <= 27; weight++) {
            saw("sack(" + weight + ", 1)", x.sack(weight, 1));
            saw("sack(" + weight + ", 2)", x.sack(weight, 2));
        }
        saw("byTurns()", x.byTurns());
    }

    private void kinds() {
        saw("trace()", x.trace());
        for (int kind = 0; kind <= 5; kind++) {
            for (int i = 0; i <= 2; i++) {
                saw("mark(" + kind + ", " + i + ")", x.mark(kind, i));
            }
        }
        saw("trace() of all marks", x.trace());
    }

    private void images() {
        for (int image = 0; image <= 1; image++) {
            saw("back(" + image + ")", x.back(image));
            book();
        }
    }

    /** A text that ends in "thing" is gone on with here: whatever else had come to it would be a fault. */
    private void text() {
        saw("type", x.type(' ' << 16 | '5' << 8 | ';', 3));
        saw("market()", x.market());
        scale();
        saw("clear()", x.clear());
    }
}
