/** Compares answers with those that are due, and ends the test with exit code 1 if one is not. */
final class Due {
    static final int BEYOND = -1000000001;
    static final int NONE = -1000000002;
    static final int STATE = -1000000003;
    static final int FULL = -1000000004;
    static final int KIND = -1000000005;

    private final String test;
    private String sentence = "";
    private int asked;
    private int wrong;

    Due(String test) {
        this.test = test;
    }

    /** What a promise (0: the Terms) says of the rows that follow; it is told with each answer that is not due. */
    void says(int promise, String words) {
        sentence = promise == 0 ? " (Terms: " + words + ")" : " (promise " + promise + ": " + words + ")";
    }

    void is(String call, long got, long want) {
        asked++;
        if (got != want) {
            wrong++;
            System.out.println(test + ": " + call + " answered " + got + ", due is " + want + sentence);
        }
    }

    /** All calls at once: each row an answer and what is due. */
    void rows(String calls, int[] got, int... want) {
        is(calls + ": how many", got.length, want.length);
        for (int i = 0; i < Math.min(got.length, want.length); i++) {
            is(calls + " [" + i + "]", got[i], want[i]);
        }
    }

    void end() {
        System.out.println(test + ": " + (asked - wrong) + " of " + asked + " answers are as due");
        if (wrong != 0 || asked == 0) {
            System.exit(1);
        }
    }

    /** Feeds a text, eight bytes a word. */
    static void feed(PaperBubbles x, String text) {
        for (int i = 0; i < text.length(); i += 8) {
            int n = Math.min(8, text.length() - i);
            long word = 0;
            for (int k = n - 1; k >= 0; k--) {
                word = word << 8 | text.charAt(i + k) & 255;
            }
            x.feed(word, n);
        }
    }

    static int text(PaperBubbles x, int use, String text) {
        feed(x, text);
        return x.text(use);
    }

    /** AIR of the cells from 0 on. */
    static void airs(PaperBubbles x, int... airs) {
        for (int i = 0; i < airs.length; i++) {
            x.set(i, 0, airs[i]);
        }
    }

    static void pastes(PaperBubbles x, int... pastes) {
        for (int i = 0; i < pastes.length; i++) {
            x.set(i, 1, pastes[i]);
        }
    }

    /** AIR (what 0), PASTE (1), .. of all cells. */
    static int[] all(PaperBubbles x, int what) {
        int[] all = new int[x.count(0)];
        for (int i = 0; i < all.length; i++) {
            all[i] = x.ofCell(i, what);
        }
        return all;
    }

    static int[] trace(PaperBubbles x) {
        int[] bodies = new int[x.count(10)];
        for (int i = 0; i < bodies.length; i++) {
            bodies[i] = x.trace(i);
        }
        return bodies;
    }
}
