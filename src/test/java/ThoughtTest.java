/** Promises 16 to 27: shown, bubbles, biggest, wayOut, best, bestTwo, goneBy, never, needs, lamp, came, odds. */
public final class ThoughtTest {
    public static void main(String[] args) {
        Due due = new Due("ThoughtTest");
        shown(due);
        bubbles(due);
        wayOut(due);
        best(due);
        bestTwo(due);
        goneBy(due);
        never(due);
        needs(due);
        lamp(due);
        came(due);
        odds(due);
        onlyThought(due);
        due.end();
    }

    private static void shown(Due due) {
        PaperBubbles x = new PaperBubbles();
        due.is("shown()", x.shown(), 0);
        x.wall(5, 5);
        for (int i = 0; i < 25; i++) {
            x.set(i, 0, 99);
        }
        due.is("shown() of a full wall", x.shown(), 2475);
        Due.text(x, 1, "r*10+c");
        due.is("shown() by rows and columns", x.shown(), 550);
        Due.text(x, 1, "a*2");
        due.is("each held", x.shown(), 2475);
        Due.text(x, 1, "a>50");
        due.is("shown() by a text", x.shown(), 25);
        x.wall(2, 3);
        due.is("shown() of a new wall", x.shown(), 0);
        Due.text(x, 1, "1");
        due.is("each of six", x.shown(), 6);
    }

    private static void bubbles(Due due) {
        PaperBubbles x = new PaperBubbles();
        due.is("bubbles()", x.bubbles(), 0);
        due.is("biggest(0)", x.biggest(0), Due.NONE);
        due.is("biggest(1)", x.biggest(1), Due.NONE);
        due.is("biggest(2)", x.biggest(2), Due.BEYOND);
        due.is("biggest(-1)", x.biggest(-1), Due.BEYOND);
        x.wall(3, 4);
        // 5 0 0 7
        // 0 5 7 0
        // 5 0 0 5
        Due.airs(x, 5, 0, 0, 7, 0, 5, 7, 0, 5, 0, 0, 5);
        due.is("corners don't hang together", x.bubbles(), 5);
        due.is("biggest(0)", x.biggest(0), 12);
        due.is("biggest(1)", x.biggest(1), 5);
        x.set(3, 0, 12);
        due.is("the least cell of several", x.biggest(1), 3);
        due.is("its SIZE", x.biggest(0), 12);
        x.set(3, 0, 11);
        due.is("biggest(1)", x.biggest(1), 5);
        x.set(7, 0, 1);
        due.is("7 hangs them together", x.bubbles(), 3);
        due.is("biggest(0)", x.biggest(0), 5 + 7 + 1 + 11 + 5);
        due.is("biggest(1)", x.biggest(1), 3);
        due.is("SIZE from within", x.ofCell(11, 3), 29);
        // no hanging together round the end of a row
        Due.airs(x, 0, 0, 0, 9, 9, 0, 0, 0, 0, 0, 0, 0);
        due.is("rows don't go on", x.bubbles(), 2);
        for (int i = 0; i < 12; i++) {
            x.set(i, 0, 99);
        }
        due.is("a full wall", x.bubbles(), 1);
        due.is("a full wall", x.biggest(0), 12 * 99);
        due.is("a full wall", x.biggest(1), 0);
        x.wall(1, 1);
        x.set(0, 0, 1);
        due.is("AIR 1", x.bubbles(), 1);
        due.is("AIR 1", x.biggest(0), 1);
        due.is("AIR 1", x.count(6), 1);
        due.is("AIR 1", x.lamp(1), 1);
        x.set(0, 1, 0);
        due.is("AIR 1", x.never(), 1);
        x.wall(5, 5);
        // a spiral
        String spiral = "1111100001111011000111111";
        for (int i = 0; i < 25; i++) {
            x.set(i, 0, spiral.charAt(i) - '0');
        }
        due.is("a spiral", x.bubbles(), 1);
        due.is("a spiral", x.ofCell(12, 3), 17);
        due.is("told(2)", x.told(2), 2);
        due.is("told(1)", x.told(1), 2);
    }

    private static void wayOut(Due due) {
        PaperBubbles x = new PaperBubbles();
        x.wall(3, 5);
        due.is("wayOut(15)", x.wayOut(15), Due.BEYOND);
        due.is("wayOut(-1)", x.wayOut(-1), Due.BEYOND);
        due.is("wayOut(0)", x.wayOut(0), Due.NONE);
        int[][] far = {{0, 0, 0, 0, 0, 1, 1, 1, 1, 1, 2, 2, 2, 2, 2}, {4, 3, 2, 1, 0, 4, 3, 2, 1, 0, 4, 3, 2, 1, 0},
            {2, 2, 2, 2, 2, 1, 1, 1, 1, 1, 0, 0, 0, 0, 0}, {0, 1, 2, 3, 4, 0, 1, 2, 3, 4, 0, 1, 2, 3, 4}};
        for (int way = 0; way < 4; way++) {
            x.edge(way, 1);
            for (int cell = 0; cell < 15; cell++) {
                due.is("way " + way + " wayOut(" + cell + ")", x.wayOut(cell), far[way][cell]);
            }
            x.edge(way, 0);
        }
        x.edge(1, 1);
        x.edge(2, 1);
        due.is("the nearer", x.wayOut(0), 2);
        due.is("the nearer", x.wayOut(3), 1);
        x.wall(1, 1);
        due.is("alone", x.wayOut(0), 0);
        due.is("told(2)", x.told(2), 1);
    }

    private static void best(Due due) {
        PaperBubbles x = new PaperBubbles();
        due.is("best(0, 0)", x.best(0, 0), Due.BEYOND);
        x.tool(30);
        due.is("best(-1, 0)", x.best(-1, 0), Due.BEYOND);
        due.is("best(0, 2)", x.best(0, 2), Due.BEYOND);
        due.is("best(0, -1)", x.best(0, -1), Due.BEYOND);
        due.is("nothing to do", x.best(0, 0), 0);
        due.is("nothing to do", x.best(0, 1), 0);
        x.wall(2, 2);
        Due.airs(x, 10, 20, 30, 40);
        due.is("closed", x.best(0, 0), 0);
        due.is("closed", x.best(0, 1), 99 + 1);
        x.edge(2, 1);
        due.is("1 then 3, south", x.best(0, 0), 12);
        due.is("SHOWN behind it", x.best(0, 1), 40);
        x.edge(0, 1);
        due.is("3 then 1, north: as good", x.best(0, 0), 12);
        x.set(1, 0, 0);
        due.is("1 south is 3 alone", x.best(0, 1), 40);
        Due.text(x, 1, "a*(c=0)");
        due.is("what isn't seen", x.best(0, 0), 2);
        due.is("what isn't seen", x.best(0, 1), 0);
        Due.text(x, 1, "a*!r");
        due.is("0 south", x.best(0, 0), 0);
        due.is("0 south", x.best(0, 1), 0);
        x.wall(5, 5);
        Due.text(x, 1, "a");
        x.set(24, 0, 50);
        x.set(4, 0, 50);
        x.edge(0, 0);
        due.is("the last cell, south", x.best(0, 0), 192);
        x.become(0, 0);
        due.is("a TOOL, the last cell", x.best(0, 0), 242);
        due.is("half of it", x.best(0, 1), 75);
        due.is("told(1)", x.told(1), 4);
    }

    private static void bestTwo(Due due) {
        PaperBubbles x = new PaperBubbles();
        due.is("bestTwo(0, 0)", x.bestTwo(0, 0), Due.BEYOND);
        x.tool(0);
        due.is("bestTwo(-1, 0)", x.bestTwo(-1, 0), Due.BEYOND);
        due.is("bestTwo(0, 2)", x.bestTwo(0, 2), Due.BEYOND);
        due.is("bestTwo(0, -1)", x.bestTwo(0, -1), Due.BEYOND);
        due.is("told(1)", x.told(1), 4);
        due.is("nothing to do", x.bestTwo(0, 0), 0);
        x.wall(1, 3);
        Due.airs(x, 80, 0, 8);
        x.edge(1, 1);
        Due.text(x, 0, "a");
        // 8 go out by the second stroke; the 80 are too far away, so that any first one does
        due.is("best", x.best(0, 0), 21);
        due.is("best", x.best(0, 1), 80);
        due.is("least first of several", x.bestTwo(0, 0), 0);
        due.is("both", x.bestTwo(0, 1), 80);
        x.wall(1, 2);
        Due.airs(x, 80, 8);
        due.is("0 east, then 1 east", x.bestTwo(0, 0), 1);
        due.is("all is out", x.bestTwo(0, 1), 0);
        due.is("best", x.best(0, 0), 11);
        x.become(0, 50);
        x.wall(2, 2);
        Due.airs(x, 1, 5, 4, 2);
        due.is("KNIFE", x.bestTwo(0, 0), 10);
        due.is("KNIFE", x.bestTwo(0, 1), 3);
        x.wall(5, 5);
        x.become(0, 65);
        for (int i = 0; i < 25; i++) {
            x.set(i, 0, 99);
        }
        x.edge(0, 1);
        due.is("a full wall", 1000 * x.bestTwo(0, 1) + x.bestTwo(0, 0), twoStrokesDone());
    }

    /** The least SHOWN (times 1000) and its least first stroke: by strokes done, not thought. */
    private static int twoStrokesDone() {
        int least = Integer.MAX_VALUE;
        for (int first = 0; first < 100; first++) {
            for (int second = 0; second < 100; second++) {
                PaperBubbles x = fullHard();
                x.stroke(0, first / 4, first % 4);
                x.stroke(0, second / 4, second % 4);
                least = Math.min(least, 1000 * x.shown() + 10 * (first / 4) + first % 4);
            }
        }
        return least;
    }

    private static PaperBubbles fullHard() {
        PaperBubbles x = new PaperBubbles();
        x.wall(5, 5);
        x.tool(65);
        for (int i = 0; i < 25; i++) {
            x.set(i, 0, 99);
        }
        x.edge(0, 1);
        return x;
    }

    private static void goneBy(Due due) {
        PaperBubbles x = new PaperBubbles();
        due.is("goneBy(16)", x.goneBy(16), Due.BEYOND);
        due.is("goneBy(-1)", x.goneBy(-1), Due.BEYOND);
        due.is("no AIR", x.goneBy(0), 0);
        int[][] rows = {{1, 0, Due.NONE}, {1, 1, 1}, {2, 1, Due.NONE}, {5, 5, 1}, {6, 5, 2}, {9, 5, 2}, {10, 5, 3},
            {14, 5, 4}, {15, 5, 5}, {16, 5, Due.NONE}, {45, 9, 9}, {44, 9, 8}, {43, 9, 8}, {46, 9, Due.NONE},
            {99, 9, Due.NONE}, {0, 0, 0}};
        int none = 0;
        for (int[] row : rows) {
            x.set(7, 0, row[0]);
            x.set(7, 1, row[1]);
            due.is("AIR " + row[0] + ", PASTE " + row[1], x.goneBy(7), row[2]);
            none += row[2] == Due.NONE ? 1 : 0;
        }
        due.is("told(2)", x.told(2), none);
    }

    private static void never(Due due) {
        PaperBubbles x = new PaperBubbles();
        due.is("never()", x.never(), 0);
        Due.airs(x, 15, 16, 1, 45, 46, 0, 3);
        Due.pastes(x, 5, 5, 0, 9, 9, 0, 2);
        due.is("never()", x.never(), 3);
        for (int i = 0; i < 16; i++) {
            x.set(i, 0, 99);
        }
        due.is("all", x.never(), 16);
    }

    private static void needs(Due due) {
        PaperBubbles x = new PaperBubbles();
        due.is("needs(16, 1)", x.needs(16, 1), Due.BEYOND);
        due.is("needs(-1, 1)", x.needs(-1, 1), Due.BEYOND);
        due.is("needs(0, 31)", x.needs(0, 31), Due.BEYOND);
        due.is("needs(0, -1)", x.needs(0, -1), Due.BEYOND);
        due.is("no AIR", x.needs(0, 0), 0);
        int[][] rows = {{1, 0, Due.NONE}, {1, 1, 1}, {9, 1, 9}, {10, 1, Due.NONE}, {10, 2, 6}, {11, 2, 6}, {12, 2, 7},
            {17, 2, 9}, {18, 2, Due.NONE}, {45, 30, 9}, {45, 9, 9}, {45, 8, Due.NONE}, {46, 30, Due.NONE}, {36, 30, 8},
            {37, 30, 9}, {0, 30, 0}, {3, 30, 2}};
        int none = 0;
        for (int[] row : rows) {
            x.set(3, 0, row[0]);
            due.is("AIR " + row[0] + ", NIGHTS " + row[1], x.needs(3, row[1]), row[2]);
            none += row[2] == Due.NONE ? 1 : 0;
        }
        due.is("its own PASTE stays", x.ofCell(3, 1), 5);
        due.is("told(2)", x.told(2), none);
        due.is("told(1)", x.told(1), 4);
    }

    private static void lamp(Due due) {
        PaperBubbles x = new PaperBubbles();
        due.is("lamp(4)", x.lamp(4), Due.BEYOND);
        due.is("lamp(-1)", x.lamp(-1), Due.BEYOND);
        due.is("told(1)", x.told(1), 2);
        due.is("no AIR", x.lamp(0), 0);
        x.wall(3, 4);
        // 1 2 2 3
        // 4 0 9 3
        // 0 5 1 8
        Due.airs(x, 1, 2, 2, 3, 4, 0, 9, 3, 0, 5, 1, 8);
        due.is("from the north", x.lamp(0), 2 + 2 + 2 + 2);
        due.is("from the east", x.lamp(1), 1 + 2 + 1);
        due.is("from the south", x.lamp(2), 1 + 1 + 2 + 1);
        due.is("from the west", x.lamp(3), 3 + 2 + 2);
        x.edge(0, 1);
        due.is("an OPEN EDGE doesn't matter", x.lamp(0), 8);
        x.wall(5, 1);
        Due.airs(x, 1, 2, 3, 4, 5);
        due.is("five in a row", x.lamp(0), 5);
        due.is("the nearest alone", x.lamp(2), 1);
        due.is("each alone", x.lamp(1), 5);
    }

    private static void came(Due due) {
        PaperBubbles x = new PaperBubbles();
        x.wall(1, 3);
        x.tool(2);
        Due.airs(x, 20, 6, 4);
        x.sheet(0, 8, 3);
        due.is("by none", x.came(0, 0, 1, 0), Due.NONE);
        due.is("came(1, ..)", x.came(1, 0, 1, 0), Due.BEYOND);
        due.is("came(-1, ..)", x.came(-1, 0, 1, 0), Due.BEYOND);
        due.is("came(.., 3, ..)", x.came(0, 3, 1, 0), Due.BEYOND);
        due.is("came(.., -1, ..)", x.came(0, -1, 1, 0), Due.BEYOND);
        due.is("way 4", x.came(0, 0, 4, 0), Due.BEYOND);
        due.is("way -1", x.came(0, 0, -1, 0), Due.BEYOND);
        due.is("sheet 4", x.came(0, 0, 1, 4), Due.BEYOND);
        due.is("sheet -1", x.came(0, 0, 1, -1), Due.BEYOND);
        due.is("missing", x.came(0, 0, 1, 1), Due.NONE);
        x.sheet(1, 32, 2);
        due.is("fewer numbers", x.came(0, 0, 1, 1), Due.NONE);
        came(due, x, "TOOL", 0, 10, 16, 4);
        came(due, x, "BRUSH", 1, 9, 17, 4);
        came(due, x, "NEEDLE", 2, 17, 6, 4);
        came(due, x, "ROLLER", 3, 0, 0, 30);
        came(due, x, "SOFT", 4, 15, 11, 4);
        came(due, x, "KNIFE", 5, 0, 6, 4);
        x.become(0, 1);
        came(due, x, "HARD", 6, 1, 1, 28);
        x.become(0, 2);
        x.sheet(2, 16, 4);
        x.put(2, 0, 10);
        x.put(2, 1, 16);
        x.put(2, 2, 4);
        due.is("more numbers", x.came(0, 0, 1, 2), Due.NONE);
        Due.airs(x, 0, 0, 0);
        x.sheet(0, 8, 3);
        due.is("the least of all", x.came(0, 0, 1, 0), 0);
        Due.airs(x, 2, 0, 0);
        x.put(0, 0, 0);
        due.is("NEEDLE, KNIFE", x.came(0, 0, 1, 0), 2);
        due.is("told(1)", x.told(1), 8);
    }

    private static void came(Due due, PaperBubbles x, String name, int kind, int... airs) {
        for (int i = 0; i < airs.length; i++) {
            x.put(0, i, airs[i]);
        }
        due.is(name, x.came(0, 0, 1, 0), kind);
        due.is("AIR stays", x.ofCell(0, 0), 20);
    }

    private static void odds(Due due, PaperBubbles x, int v, int above, int below) {
        due.is("odds of " + v + " above", x.odds(0, 4, v, 0), above);
        due.is("odds of " + v + " below", x.odds(0, 4, v, 1), below);
    }

    private static void odds(Due due) {
        PaperBubbles x = new PaperBubbles();
        x.wall(3, 3);
        x.tool(0);
        x.set(4, 0, 40);
        // 20 stay, 20 go north, east, south, west: seen as 20, 40, 60, 80
        Due.text(x, 1, "a*((r=0)+2*(c=2)+3*(r=2)+4*(c=0))");
        odds(due, x, 0, 0, 1);
        odds(due, x, 19, 0, 1);
        odds(due, x, 20, 1, 4);
        odds(due, x, 40, 1, 2);
        odds(due, x, 59, 1, 2);
        odds(due, x, 60, 3, 4);
        odds(due, x, 79, 3, 4);
        odds(due, x, 80, 1, 1);
        odds(due, x, 9999, 1, 1);
        due.is("v 10000", x.odds(0, 4, 10000, 0), Due.BEYOND);
        due.is("v -1", x.odds(0, 4, -1, 0), Due.BEYOND);
        due.is("part 2", x.odds(0, 4, 0, 2), Due.BEYOND);
        due.is("part -1", x.odds(0, 4, 0, -1), Due.BEYOND);
        due.is("cell 9", x.odds(0, 9, 0, 0), Due.BEYOND);
        due.is("cell -1", x.odds(0, -1, 0, 0), Due.BEYOND);
        due.is("tool 1", x.odds(1, 0, 0, 0), Due.BEYOND);
        due.is("tool -1", x.odds(-1, 0, 0, 0), Due.BEYOND);
        due.is("told(1)", x.told(1), 8);
    }

    private static void onlyThought(Due due) {
        PaperBubbles x = new PaperBubbles();
        x.tool(51);
        x.edge(0, 1);
        x.set(5, 0, 70);
        x.set(6, 0, 30);
        x.set(6, 1, 1);
        x.sheet(0, 8, 16);
        int[] air = Due.all(x, 0);
        int[] paste = Due.all(x, 1);
        x.best(0, 0);
        x.bestTwo(0, 0);
        x.goneBy(5);
        x.never();
        x.needs(5, 9);
        x.lamp(1);
        x.came(0, 5, 0, 0);
        x.odds(0, 5, 50, 0);
        x.biggest(0);
        x.wayOut(5);
        x.tell(3);
        x.check();
        due.rows("AIR stays", Due.all(x, 0), air);
        due.rows("PASTE stays", Due.all(x, 1), paste);
        int[] want = {16, 1, 100, 0, 0, 0, 2, 1, 0, 0, 0, 1};
        for (int what = 0; what < 12; what++) {
            due.is("count(" + what + ")", x.count(what), want[what]);
        }
    }
}
