/** Promises 28 to 30: seed, voice, trace. */
public final class VoiceTest {
    public static void main(String[] args) {
        Due due = new Due("VoiceTest");
        seed(due);
        kinds(due);
        numbers(due);
        wrong(due);
        due.end();
    }

    private static void seed(Due due) {
        PaperBubbles x = new PaperBubbles();
        due.is("seed(0)", x.seed(0), 1);
        due.is("seed(MIN)", x.seed(Integer.MIN_VALUE), 0);
        due.is("seed(BEYOND)", x.seed(Due.BEYOND), Integer.MIN_VALUE);
        due.is("any number, no ERROR", x.seed(7), Due.BEYOND);
        due.is("told(1)", x.told(1), 0);
        due.is("z", x.count(11), 7);
    }

    private static void voice(Due due, PaperBubbles x, int tool, int act, int v, int want, int... bodies) {
        due.is("voice(" + tool + ", " + act + ", " + v + ")", x.voice(tool, act, v), want);
        due.rows("TRACE of " + act + " of KIND " + x.ofTool(tool, 0), Due.trace(x), bodies);
        due.is("behind it", x.trace(bodies.length), Due.NONE);
    }

    /** Tools 0 to 5 of KINDS 0 to 5 with m 4, and x 10. */
    private static void kinds(Due due) {
        PaperBubbles x = new PaperBubbles();
        for (int kind = 0; kind < 6; kind++) {
            x.tool(10 * kind + 4);
        }
        voice(due, x, 0, 0, 10, 10, 10);
        voice(due, x, 0, 1, 10, 20, 11, 10);
        voice(due, x, 0, 2, 10, 6, 12);
        voice(due, x, 0, 3, 10, 20 ^ 6, 13, 11, 10, 12);
        voice(due, x, 1, 0, 10, 33, 20, 10);
        voice(due, x, 1, 1, 10, 66, 11, 20, 10);
        voice(due, x, 1, 2, 10, 6, 12);
        voice(due, x, 1, 3, 10, 66 ^ 6, 13, 11, 20, 10, 12);
        voice(due, x, 2, 0, 10, 12, 10);
        voice(due, x, 2, 1, 10, 24 + 3, 30, 11, 10, 12);
        voice(due, x, 2, 2, 10, 6, 12);
        voice(due, x, 2, 3, 10, 27 ^ 6, 13, 30, 11, 10, 12, 12);
        voice(due, x, 3, 0, 10, 13, 10);
        voice(due, x, 3, 1, 10, 26, 11, 10);
        voice(due, x, 3, 2, 10, -6, 40, 12);
        voice(due, x, 3, 3, 10, 26 ^ -6, 13, 11, 10, 40, 12);
        voice(due, x, 4, 0, 10, 42, 20, 10);
        voice(due, x, 4, 1, 10, 84, 11, 20, 10);
        voice(due, x, 4, 2, 10, 6, 12);
        voice(due, x, 4, 3, 10, (84 ^ 6) - 18, 50, 13, 11, 20, 10, 12, 20, 10);
        voice(due, x, 5, 0, 10, 15, 10);
        voice(due, x, 5, 1, 10, 32 + 3, 60, 30, 11, 10, 12);
        voice(due, x, 5, 2, 10, 6, 12);
        voice(due, x, 5, 3, 10, 35 ^ 6, 13, 60, 30, 11, 10, 12, 12);
        x.become(5, 64);
        voice(due, x, 5, 0, 10, 15, 10);
        voice(due, x, 5, 1, 10, 30, 11, 10);
        voice(due, x, 5, 2, 10, -6 ^ 5, 70, 40, 12);
        voice(due, x, 5, 3, 10, 30 - (30 ^ -6 ^ 5), 71, 11, 10, 13, 11, 10, 70, 40, 12);
    }

    private static void numbers(Due due) {
        PaperBubbles x = new PaperBubbles();
        x.tool(0);
        x.tool(19);
        voice(due, x, 1, 0, Integer.MAX_VALUE, Integer.MIN_VALUE * 3, 20, 10);
        voice(due, x, 1, 2, Integer.MIN_VALUE, Integer.MAX_VALUE - 8, 12);
        voice(due, x, 0, 0, Due.NONE, Due.NONE, 10);
        due.is("no ERROR", x.told(2), 3);
        x.become(1, 50);
        voice(due, x, 1, 1, Integer.MAX_VALUE, (Integer.MIN_VALUE + 1) * 2 - 1, 60, 30, 11, 10, 12);
    }

    private static void wrong(Due due) {
        PaperBubbles x = new PaperBubbles();
        due.is("voice(0, 0, 0)", x.voice(0, 0, 0), Due.BEYOND);
        x.tool(0);
        x.voice(0, 1, 5);
        due.is("voice(1, 0, 0)", x.voice(1, 0, 0), Due.BEYOND);
        due.is("voice(-1, 0, 0)", x.voice(-1, 0, 0), Due.BEYOND);
        due.is("voice(0, 4, 0)", x.voice(0, 4, 0), Due.BEYOND);
        due.is("voice(0, -1, 0)", x.voice(0, -1, 0), Due.BEYOND);
        due.rows("THE TRACE stays", Due.trace(x), 11, 10);
        due.is("trace(-1)", x.trace(-1), Due.NONE);
        due.is("trace(2)", x.trace(2), Due.NONE);
        due.is("trace(40)", x.trace(40), Due.NONE);
        due.is("trace(MAX)", x.trace(Integer.MAX_VALUE), Due.NONE);
        due.is("told(1)", x.told(1), 5);
        due.is("told(2)", x.told(2), 4);
    }
}
