/** What all tests share: counts the answers that are not due, types texts, makes markets. */
final class Check {
    private final String name;
    private String sentence = "";
    private int sentences;
    private int asked;
    private int wrong;

    Check(String name) {
        this.name = name;
    }

    /** Says which words of the document the answers that follow are due by. */
    void of(String words) {
        sentence = "'" + words + "': ";
        sentences++;
    }

    void due(String call, long got, long want) {
        asked++;
        if (got != want) {
            wrong++;
            System.out.println(name + ": " + sentence + call + " answered " + got + ", due is " + want);
        }
    }

    /** Types a text byte by byte where it has to be, by eights where it can. */
    static int type(SelfScale x, String text) {
        int answer = x.count(3);
        int at = 0;
        while (at < text.length()) {
            int n = Math.min(8, text.length() - at);
            long v = 0;
            for (int k = 0; k < n; k++) {
                v = v << 8 | text.charAt(at + k) & 255;
            }
            answer = x.type(v, n);
            at += n;
        }
        return answer;
    }

    static SelfScale market(String text) {
        SelfScale x = new SelfScale();
        type(x, text);
        if (x.market() < 0) {
            throw new IllegalArgumentException("no market: " + text);
        }
        return x;
    }

    /** Ends the machine with 1 if an answer was wrong. */
    void end() {
        String by = sentences == 0 ? "" : sentences + " sentences, ";
        System.out.println(name + ": " + by + asked + " answers, " + wrong + " of them not as due");
        if (wrong != 0) {
            System.exit(1);
        }
    }
}
