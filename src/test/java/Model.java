import java.math.BigInteger;
import java.util.ArrayList;
import java.util.List;

/** The document once more, as slowly and plainly as it may be said: what SelfScale is held against. */
final class Model {
    private static final int BAD = -1, STATE = -2, FULL = -3, NONE = -9, NO = -1000000;

    private record Token(String kind, String word, int place) { }

    private record Line(int set, int shown, int laugh) { }

    private record World(List<Integer> weights, int own) {
        int of(int i) {
            return i == 3 ? own : weights.get(i);
        }
    }

    private String text = "";
    private List<Integer> things = new ArrayList<>();
    private int own = 0;
    private int figures = 10;
    private List<Line> book = new ArrayList<>();
    private final List<List<Line>> images = new ArrayList<>(java.util.Arrays.asList(null, null));
    private long trace = 0;

    int type(long v, int n) {
        if (n < 1 || n > 8) {
            return BAD;
        }
        if (text.length() + n > 200) {
            return FULL;
        }
        StringBuilder bytes = new StringBuilder();
        for (int k = 0; k < n; k++) {
            bytes.insert(0, (char) (v & 255));
            v >>= 8;
        }
        text += bytes;
        return text.length();
    }

    int clear() {
        int had = text.length();
        text = "";
        return had;
    }

    private List<Token> tokens() {
        List<Token> all = new ArrayList<>();
        java.util.regex.Matcher m = java.util.regex.Pattern.compile("[a-z]+|[0-9]+|;| +|[^a-z0-9; ]", java.util.regex.Pattern.DOTALL)
                .matcher(text);
        while (m.find()) {
            String word = m.group();
            if (word.startsWith(" ")) {
                continue;
            }
            String kind = "wrong";
            if (word.equals("thing") || word.equals("own") || word.equals("figures")) {
                kind = "word";
            } else if (word.matches("0|[1-9][0-9]?")) {
                kind = "number";
            } else if (word.equals(";")) {
                kind = "stop";
            }
            all.add(new Token(kind, word, m.start()));
        }
        all.add(new Token("end", "", text.length()));
        return all;
    }

    int market() {
        List<Token> all = tokens();
        List<Integer> newThings = new ArrayList<>();
        int newOwn = -1;
        int newFigures = -1;
        int items = 0;
        int at = 0;
        while (!all.get(at).kind.equals("end")) {
            Token word = all.get(at);
            boolean mayStand = word.kind.equals("word") && switch (word.word) {
                case "thing" -> newThings.size() < 3;
                case "own" -> newOwn < 0;
                default -> newFigures < 0;
            };
            if (!mayStand) {
                return -10 - word.place;
            }
            Token number = all.get(at + 1);
            if (!number.kind.equals("number")) {
                return -10 - number.place;
            }
            int n = Integer.parseInt(number.word);
            switch (word.word) {
                case "thing" -> {
                    mayStand = n >= 1 && n <= 9;
                    newThings.add(n);
                }
                case "own" -> {
                    mayStand = n <= 9;
                    newOwn = n;
                }
                default -> {
                    mayStand = n >= 2 && n <= 20;
                    newFigures = n;
                }
            }
            if (!mayStand) {
                return -10 - number.place;
            }
            if (!all.get(at + 2).kind.equals("stop")) {
                return -10 - all.get(at + 2).place;
            }
            items++;
            at += 3;
        }
        things = newThings;
        own = Math.max(newOwn, 0);
        figures = newFigures < 0 ? 10 : newFigures;
        book.clear();
        images.set(0, null);
        images.set(1, null);
        text = "";
        return items;
    }

    private boolean isItem(int i) {
        return i == 3 || i >= 0 && i < things.size();
    }

    private boolean isSet(int set) {
        return set >= 0 && set < 1 << things.size();
    }

    private World truth() {
        return new World(things, own);
    }

    private int shown(World world, int set, int laughs) {
        int sum = world.own + laughs;
        for (int i = 0; i < world.weights.size(); i++) {
            if ((set & 1 << i) != 0) {
                sum += world.weights.get(i);
            }
        }
        return sum % figures;
    }

    int thing(int i) {
        return isItem(i) ? truth().of(i) : BAD;
    }

    int weigh(int set, int laughs, int heard) {
        if (!isSet(set) || laughs != 0 && laughs != 1 || heard != 0 && heard != 1) {
            return BAD;
        }
        if (book.size() == 12) {
            return FULL;
        }
        int shown = shown(truth(), set, laughs);
        book.add(new Line(set, shown, heard == 0 ? 2 : laughs));
        return shown;
    }

    int tell(int set, int shown, int laugh) {
        if (!isSet(set) || shown < 0 || shown >= figures || laugh < 0 || laugh > 2) {
            return BAD;
        }
        if (book.size() == 12) {
            return FULL;
        }
        book.add(new Line(set, shown, laugh));
        return book.size();
    }

    int line(int k, int what) {
        if (k < 0 || k >= book.size() || what < 0 || what > 2) {
            return BAD;
        }
        Line line = book.get(k);
        return what == 0 ? line.set : what == 1 ? line.shown : line.laugh;
    }

    int undo() {
        if (book.isEmpty()) {
            return STATE;
        }
        book.remove(book.size() - 1);
        return book.size();
    }

    private List<World> worlds() {
        List<World> all = new ArrayList<>();
        List<List<Integer>> ways = new ArrayList<>();
        ways.add(new ArrayList<>());
        for (int i = 0; i < things.size(); i++) {
            List<List<Integer>> longer = new ArrayList<>();
            for (List<Integer> way : ways) {
                for (int w = 1; w <= 9; w++) {
                    List<Integer> more = new ArrayList<>(way);
                    more.add(w);
                    longer.add(more);
                }
            }
            ways = longer;
        }
        for (List<Integer> way : ways) {
            for (int w = 0; w <= 9; w++) {
                all.add(new World(way, w));
            }
        }
        return all;
    }

    private boolean fits(Line line, World world) {
        boolean without = shown(world, line.set, 0) == line.shown;
        boolean with = shown(world, line.set, 1) == line.shown;
        return line.laugh == 0 ? without : line.laugh == 1 ? with : without || with;
    }

    private List<World> left() {
        List<World> left = new ArrayList<>();
        for (World world : worlds()) {
            boolean all = true;
            for (Line line : book) {
                all &= fits(line, world);
            }
            if (all) {
                left.add(world);
            }
        }
        return left;
    }

    int could(int i, int w) {
        if (i != -1 && !isItem(i) || w < 0 || w > 9) {
            return BAD;
        }
        int ways = 0;
        for (World world : left()) {
            if (i == -1 || world.of(i) == w) {
                ways++;
            }
        }
        return ways;
    }

    private static boolean isSure(List<World> left, int i) {
        for (World world : left) {
            if (world.of(i) != left.get(0).of(i)) {
                return false;
            }
        }
        return true;
    }

    int sure(int i) {
        if (!isItem(i)) {
            return BAD;
        }
        List<World> left = left();
        return left.isEmpty() || !isSure(left, i) ? NONE : left.get(0).of(i);
    }

    int wrong(int what) {
        if (what != 0 && what != 1) {
            return BAD;
        }
        int fewest = 99;
        for (World world : worlds()) {
            fewest = Math.min(fewest, Integer.bitCount(falseIn(world)));
        }
        int ever = (1 << book.size()) - 1;
        for (World world : worlds()) {
            if (Integer.bitCount(falseIn(world)) == fewest) {
                ever &= falseIn(world);
            }
        }
        return what == 0 ? fewest : ever;
    }

    private int falseIn(World world) {
        int bits = 0;
        for (int k = 0; k < book.size(); k++) {
            if (!fits(book.get(k), world)) {
                bits |= 1 << k;
            }
        }
        return bits;
    }

    private List<List<World>> parts(List<World> left, int set) {
        List<List<World>> parts = new ArrayList<>();
        for (int f = 0; f < figures; f++) {
            parts.add(new ArrayList<>());
        }
        for (World world : left) {
            parts.get(shown(world, set, 0)).add(world);
        }
        return parts;
    }

    int next(int what) {
        if (what != 0 && what != 1) {
            return BAD;
        }
        if (things.isEmpty()) {
            return NONE;
        }
        List<World> left = left();
        int best = 0;
        int least = Integer.MAX_VALUE;
        for (int set = 1; set < 1 << things.size(); set++) {
            int worst = 0;
            for (List<World> part : parts(left, set)) {
                worst = Math.max(worst, part.size());
            }
            if (worst < least) {
                least = worst;
                best = set;
            }
        }
        return what == 0 ? best : least;
    }

    private boolean isSureBy(List<World> left, int i, int weighings) {
        if (isSure(left, i)) {
            return true;
        }
        if (weighings == 0) {
            return false;
        }
        for (int set = 0; set < 1 << things.size(); set++) {
            boolean always = true;
            for (List<World> part : parts(left, set)) {
                always = always && isSureBy(part, i, weighings - 1);
            }
            if (always) {
                return true;
            }
        }
        return false;
    }

    int fewest(int i) {
        if (!isItem(i)) {
            return BAD;
        }
        List<World> left = left();
        for (int weighings = 0; weighings <= 2; weighings++) {
            if (isSureBy(left, i, weighings)) {
                return weighings;
            }
        }
        return NONE;
    }

    private boolean isLaughed(Line line, World world) {
        return shown(world, line.set, 1) == line.shown;
    }

    int laugh(int k) {
        if (k < 0 || k >= book.size()) {
            return BAD;
        }
        boolean some = false;
        boolean none = false;
        for (World world : left()) {
            boolean laughed = isLaughed(book.get(k), world);
            some |= laughed;
            none |= !laughed;
        }
        return some == none ? NONE : some ? 1 : 0;
    }

    long odds(int k, int a, int b, int what) {
        if (k < 0 || k >= book.size() || b < 1 || b > 9 || a < 1 || a >= b || what != 0 && what != 1) {
            return BAD;
        }
        BigInteger upper = BigInteger.ZERO;
        BigInteger lower = BigInteger.ZERO;
        for (World world : left()) {
            BigInteger chance = BigInteger.ONE;
            for (Line line : book) {
                if (line.laugh == 2) {
                    chance = chance.multiply(BigInteger.valueOf(isLaughed(line, world) ? a : b - a));
                }
            }
            lower = lower.add(chance);
            if (isLaughed(book.get(k), world)) {
                upper = upper.add(chance);
            }
        }
        if (lower.signum() == 0) {
            return STATE;
        }
        BigInteger divisor = upper.gcd(lower);
        return (what == 0 ? upper : lower).divide(divisor).longValueExact();
    }

    int sack(int weight, int what) {
        if (weight < 0 || weight > 27 || what < 0 || what > 2) {
            return BAD;
        }
        for (int taken = 0; taken <= things.size(); taken++) {
            for (int one = 0; one < 1 << things.size(); one++) {
                for (int other = 0; other < 1 << things.size(); other++) {
                    int difference = 0;
                    for (int i = 0; i < things.size(); i++) {
                        difference += things.get(i) * ((one >> i & 1) - (other >> i & 1));
                    }
                    boolean apart = (one & other) == 0 && Integer.bitCount(one | other) == taken;
                    if (apart && difference == weight) {
                        return what == 0 ? taken : what == 1 ? one : other;
                    }
                }
            }
        }
        return NONE;
    }

    int byTurns() {
        return turn(0, true);
    }

    private int turn(int set, boolean first) {
        int best = shown(truth(), set, 0);
        for (int i = 0; i < things.size(); i++) {
            if ((set & 1 << i) == 0) {
                int then = turn(set | 1 << i, !first);
                best = first == then > best ? then : best;
            }
        }
        return best;
    }

    private class Thing {
        int mark(int i) {
            trace += 1;
            return things.get(i);
        }
    }

    private class Sack extends Thing {
        int mark(int i) {
            trace += 10;
            return super.mark(i) + own;
        }
    }

    private class Lead extends Thing {
        int mark(int i) {
            trace += 100;
            return super.mark(i) * 2;
        }
    }

    private class Flour extends Sack {
        int mark(int i) {
            trace += 1000;
            return super.mark(i) - book.size();
        }
    }

    private class Gold extends Lead {
        int mark(int i) {
            trace += 10000;
            return super.mark(i) + i;
        }
    }

    private class Baby extends Thing {
        int mark(int i) {
            trace += 100000;
            int lines = 0;
            for (Line line : book) {
                lines += (line.set & 1 << i) != 0 ? 1 : 0;
            }
            return super.mark(i) + lines;
        }
    }

    int mark(int kind, int i) {
        if (kind < 0 || kind > 5 || i < 0 || i >= things.size()) {
            return NO;
        }
        Thing[] kinds = {new Thing(), new Sack(), new Lead(), new Flour(), new Gold(), new Baby()};
        return kinds[kind].mark(i);
    }

    int keep(int image) {
        if (image != 0 && image != 1) {
            return BAD;
        }
        images.set(image, new ArrayList<>(book));
        return book.size();
    }

    int back(int image) {
        if (image != 0 && image != 1) {
            return BAD;
        }
        if (images.get(image) == null) {
            return STATE;
        }
        book = new ArrayList<>(images.get(image));
        return book.size();
    }

    int count(int what) {
        return switch (what) {
            case 0 -> things.size();
            case 1 -> figures;
            case 2 -> book.size();
            case 3 -> text.length();
            default -> BAD;
        };
    }

    long trace() {
        return trace;
    }
}
