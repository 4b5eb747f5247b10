/** Promises 6 to 9, sentence by sentence, where they name a least, a greatest, an empty or a full thing. */
public final class BoundsToolTest {
    private static final int MIN = Integer.MIN_VALUE;
    private static final int MAX = Integer.MAX_VALUE;

    public static void main(String[] args) {
        Due due = new Due("BoundsToolTest");
        everyTool(due);
        wrongTool(due);
        sixTools(due);
        ofTool(due);
        noMoreThanAir(due);
        become(due);
        as(due);
        due.end();
    }

    private static void everyTool(Due due) {
        due.says(6, "km: 10 times the KIND (0 to 6), and m (0 to 9): its number");
        for (int km = 0; km < 70; km++) {
            PaperBubbles x = new PaperBubbles();
            due.is("tool(" + km + ")", x.tool(km), 0);
            due.is("TOOLS", x.count(1), 1);
            rows(due, x, 0, km);
        }
    }

    /** KIND, m, REACH, MOVES of AIR 20 without a TEXT, LETS of AIR 20, TEARS with PASTE 0 and 9, as the table says. */
    private static void rows(Due due, PaperBubbles x, int tool, int km) {
        int m = km % 10;
        int[][] ofKinds = {{1, 10, 0, 0, 0}, {1, 11, 0, 0, 0}, {1, 0, m + 1, 1, 0}, {2, 20, 0, 0, 0}, {1, 5, 0, 0, 0},
            {1, 0, 20, 2, 1}, {2 + m % 3, 20 - m, 0, 0, 1}};
        due.says(7, "0 KIND, 1 m, 2 REACH, 3 MOVES of AIR 20 with PASTE 5, 4 LETS of AIR 20, 5 and 6 TEARS");
        due.is("KIND of " + km, x.ofTool(tool, 0), km / 10);
        due.is("m of " + km, x.ofTool(tool, 1), m);
        for (int what = 2; what < 7; what++) {
            due.is("ofTool(" + tool + ", " + what + ") of " + km, x.ofTool(tool, what), ofKinds[km / 10][what - 2]);
        }
    }

    private static void wrongTool(Due due) {
        due.says(6, "BEYOND: no such KIND");
        PaperBubbles x = new PaperBubbles();
        int[] wrong = {MIN, -70, -10, -1, 70, 71, 79, 99, 100, 700, MAX};
        for (int km : wrong) {
            due.is("tool(" + km + ")", x.tool(km), Due.BEYOND);
        }
        due.is("no TOOL", x.count(1), 0);
        due.is("told(1)", x.told(1), wrong.length);
        due.is("the first", x.tool(69), 0);
    }

    private static void sixTools(Due due) {
        due.says(6, "TOOLS 0, 1, .. (at most 6). FULL");
        PaperBubbles x = new PaperBubbles();
        for (int i = 0; i < 6; i++) {
            due.is("the next number", x.tool(11 * i), i);
            due.is("how many", x.count(1), i + 1);
            due.is("none behind it", x.ofTool(i + 1, 0), Due.BEYOND);
        }
        due.is("a seventh", x.tool(0), Due.FULL);
        due.is("a seventh", x.tool(69), Due.FULL);
        due.is("BEYOND is asked first", x.tool(70), Due.BEYOND);
        due.is("BEYOND is asked first", x.tool(-1), Due.BEYOND);
        due.is("how many", x.count(1), 6);
        for (int i = 0; i < 6; i++) {
            due.is("KIND stays", x.ofTool(i, 0), i);
            due.is("m stays", x.ofTool(i, 1), i);
        }
        due.is("none behind the sixth", x.ofTool(6, 0), Due.BEYOND);
        due.is("told(4)", x.told(4), 2);
        due.is("told(1)", x.told(1), 9);
        due.is("told(3)", x.told(3), 0);
    }

    private static void ofTool(Due due) {
        due.says(7, "Of a TOOL: 0 .. 6. BEYOND");
        PaperBubbles x = new PaperBubbles();
        int[] wrong = {MIN, -1, 7, MAX};
        due.is("no TOOLS", x.ofTool(0, 0), Due.BEYOND);
        for (int tools = 1; tools <= 6; tools++) {
            x.tool(10);
            due.is("the last", x.ofTool(tools - 1, 0), 1);
            due.is("behind the last", x.ofTool(tools, 0), Due.BEYOND);
            for (int what : wrong) {
                due.is("what " + what, x.ofTool(tools - 1, what), Due.BEYOND);
            }
        }
        due.is("ofTool(-1, 0)", x.ofTool(-1, 0), Due.BEYOND);
        due.is("ofTool(MIN, 0)", x.ofTool(MIN, 0), Due.BEYOND);
        due.is("ofTool(MAX, 0)", x.ofTool(MAX, 0), Due.BEYOND);
        due.is("told(1)", x.told(1), 1 + 6 * 5 + 3);
        Due.text(x, 0, "p");
        x.become(0, 0);
        due.is("with PASTE 5", x.ofTool(0, 3), 5);
        Due.text(x, 0, "a/4");
        due.is("of AIR 20", x.ofTool(0, 3), 5);
        Due.text(x, 0, "m");
        x.become(0, 9);
        due.is("with m", x.ofTool(0, 3), 9);
        x.set(0, 1, 1);
        due.is("no CELL matters", x.ofTool(0, 3), 9);
        x.become(0, 19);
        due.is("m and 1", x.ofTool(0, 3), 10);
        x.become(0, 49);
        due.is("half of that", x.ofTool(0, 3), 5);
        x.become(0, 29);
        due.is("NEEDLE: 0", x.ofTool(0, 3), 0);
        x.become(0, 59);
        due.is("KNIFE: as NEEDLE", x.ofTool(0, 3), 0);
        x.become(0, 39);
        due.is("ROLLER: a", x.ofTool(0, 3), 20);
        x.become(0, 69);
        due.is("HARD: a less m", x.ofTool(0, 3), 11);
    }

    private static void noMoreThanAir(Due due) {
        due.says(7, "MOVES: in the end no more than a");
        PaperBubbles x = new PaperBubbles();
        x.tool(0);
        x.tool(10);
        x.tool(40);
        // v; what TOOL, BRUSH, SOFT move of AIR 20
        int[][] rows = {{0, 0, 1, 0}, {1, 1, 2, 1}, {2, 2, 3, 1}, {18, 18, 19, 9}, {19, 19, 20, 10}, {20, 20, 20, 10},
            {21, 20, 20, 11}, {37, 20, 20, 19}, {38, 20, 20, 19}, {39, 20, 20, 20}, {40, 20, 20, 20}, {41, 20, 20, 20},
            {98, 20, 20, 20}, {99, 20, 20, 20}, {100, 20, 20, 20}};
        for (int[] row : rows) {
            Due.text(x, 0, "" + row[0]);
            for (int tool = 0; tool < 3; tool++) {
                due.is("v " + row[0] + ", TOOL " + tool, x.ofTool(tool, 3), row[tool + 1]);
            }
        }
        Due.text(x, 0, "0-1");
        due.is("v held at 0: TOOL", x.ofTool(0, 3), 0);
        due.is("v held at 0: BRUSH", x.ofTool(1, 3), 1);
        due.is("v held at 0: SOFT", x.ofTool(2, 3), 0);
        due.says(7, "LETS: in the end no more than a");
        x.become(0, 29);
        due.is("NEEDLE, m 9", x.ofTool(0, 4), 10);
        x.become(0, 20);
        due.is("NEEDLE, m 0", x.ofTool(0, 4), 1);
    }

    private static void become(Due due) {
        due.says(8, "A TOOL becomes one of a KIND, with m (km): the KIND that it was. BEYOND");
        PaperBubbles x = new PaperBubbles();
        due.is("no TOOLS", x.become(0, 0), Due.BEYOND);
        x.tool(25);
        x.tool(36);
        int was = 3;
        for (int km = 69; km >= 0; km--) {
            due.is("become(1, " + km + ")", x.become(1, km), was);
            was = km / 10;
            due.is("KIND", x.ofTool(1, 0), km / 10);
            due.is("m", x.ofTool(1, 1), km % 10);
        }
        int[] wrong = {MIN, -1, 70, 100, MAX};
        for (int km : wrong) {
            due.is("become(1, " + km + ")", x.become(1, km), Due.BEYOND);
        }
        int[] wrongTools = {MIN, -1, 2, 6, MAX};
        for (int tool : wrongTools) {
            due.is("become(" + tool + ", 11)", x.become(tool, 11), Due.BEYOND);
        }
        due.is("KIND stays", x.ofTool(1, 0), 0);
        due.is("m stays", x.ofTool(1, 1), 0);
        due.is("the other's KIND stays", x.ofTool(0, 0), 2);
        due.is("the other's m stays", x.ofTool(0, 1), 5);
        due.is("TOOLS", x.count(1), 2);
        due.is("told(1)", x.told(1), 11);
        for (int i = 2; i < 6; i++) {
            x.tool(0);
        }
        due.is("the sixth, where no seventh comes", x.become(5, 69), 0);
        due.is("KIND", x.ofTool(5, 0), 6);
    }

    private static void as(Due due) {
        due.says(9, "A TOOL as one of a KIND: m. BEYOND. KIND: it isn't of that KIND, nor of one under it");
        PaperBubbles x = new PaperBubbles();
        due.is("no TOOLS", x.as(0, 0), Due.BEYOND);
        int[] above = {-1, 0, 0, 0, 1, 2, 3};
        x.tool(0);
        int refused = 0;
        for (int kind = 0; kind < 7; kind++) {
            x.become(0, 10 * kind + 9 - kind);
            for (int as = 0; as < 7; as++) {
                boolean is = as == kind || as == above[kind] || as == 0;
                due.is(kind + " as " + as, x.as(0, as), is ? 9 - kind : Due.KIND);
                refused += is ? 0 : 1;
            }
            due.is(kind + " as 7: BEYOND first", x.as(0, 7), Due.BEYOND);
            due.is(kind + " as -1: BEYOND first", x.as(0, -1), Due.BEYOND);
        }
        int[] wrong = {MIN, -1, 1, MAX};
        for (int tool : wrong) {
            due.is("as(" + tool + ", 3)", x.as(tool, 3), Due.BEYOND);
        }
        due.is("as(0, MIN)", x.as(0, MIN), Due.BEYOND);
        due.is("as(0, MAX)", x.as(0, MAX), Due.BEYOND);
        due.is("told(5)", x.told(5), refused);
        due.is("told(1)", x.told(1), 1 + 14 + 4 + 2);
        due.is("it stays what it is", x.ofTool(0, 0), 6);
    }
}
