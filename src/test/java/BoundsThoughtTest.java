/** Promises 16 to 27, sentence by sentence, where they name a least, a greatest, an empty or a full thing. */
public final class BoundsThoughtTest {
    private static final int MIN = Integer.MIN_VALUE;
    private static final int MAX = Integer.MAX_VALUE;
    private static final int[] WRONG_PARTS = {MIN, -1, 2, MAX};
    private static final int[] WRONG_WAYS = {MIN, -1, 4, MAX};
    private static final int[] WRONG_NIGHTS = {MIN, -1, 31, MAX};

    public static void main(String[] args) {
        Due due = new Due("BoundsThoughtTest");
        shown(due);
        bubbles(due);
        biggest(due);
        biggestWrong(due);
        wayOut(due);
        wayOutWrong(due);
        bestOfSeveral(due);
        noneIsNoStroke(due);
        bestWrong(due);
        bestTwoOfSeveral(due);
        bestTwoByStrokes(due);
        goneBy(due);
        goneByWrong(due);
        never(due);
        needs(due);
        needsWrong(due);
        lamp(due);
        lampWrong(due);
        cameByKind(due);
        cameBySheet(due);
        cameWrong(due);
        oddsOfWays(due);
        oddsWrong(due);
        due.end();
    }

    private static PaperBubbles walled(int rows, int columns, int... airs) {
        PaperBubbles x = new PaperBubbles();
        x.wall(rows, columns);
        Due.airs(x, airs);
        return x;
    }

    private static PaperBubbles full(int v) {
        PaperBubbles x = new PaperBubbles();
        x.wall(5, 5);
        for (int cell = 0; cell < 25; cell++) {
            x.set(cell, 0, v);
        }
        return x;
    }

    // ---- shown, bubbles, biggest

    private static void shown(Due due) {
        due.says(16, "SHOWN: of all CELLS what the other TEXT gives (held within 0 to 99), together");
        PaperBubbles x = new PaperBubbles();
        due.is("no AIR", x.shown(), 0);
        x = full(99);
        due.is("all full", x.shown(), 2475);
        Due.text(x, 1, "a*2");
        due.is("each is held at 99", x.shown(), 2475);
        Due.text(x, 1, "0-a");
        due.is("each is held at 0", x.shown(), 0);
        x.set(24, 0, 0);
        Due.text(x, 1, "9-a");
        due.is("each is held, then all together", x.shown(), 9);
        Due.text(x, 1, "(r=4)&(c=4)");
        due.is("the last CELL", x.shown(), 1);
        Due.text(x, 1, "!r&!c");
        due.is("the first CELL", x.shown(), 1);
        Due.text(x, 1, "r*5+c");
        due.is("all rows and columns", x.shown(), 300);
        Due.text(x, 1, "a+r*9+c");
        for (int rows = 1; rows <= 5; rows++) {
            for (int columns = 1; columns <= 5; columns++) {
                x.wall(rows, columns);
                x.set(rows * columns - 1, 0, 7);
                int all = 7 + columns * 9 * rows * (rows - 1) / 2 + rows * columns * (columns - 1) / 2;
                due.is("SHOWN of " + rows + " by " + columns, x.shown(), all);
            }
        }
        Due.text(x, 1, "r*5+c");
        x.wall(1, 1);
        due.is("one CELL", x.shown(), 0);
        x.set(0, 0, 99);
        Due.text(x, 1, "a");
        due.is("one CELL", x.shown(), 99);
        Due.text(x, 0, "7");
        due.is("the other TEXT, not MOVED's", x.shown(), 99);
    }

    private static void bubbles(Due due) {
        due.says(17, "BUBBLES: CELLS with AIR side by side (north, east, south, west), as many as hang together");
        due.is("none", new PaperBubbles().bubbles(), 0);
        due.is("one CELL", walled(1, 1, 1).bubbles(), 1);
        PaperBubbles full = full(1);
        due.is("a full wall", full.bubbles(), 1);
        due.is("asked again", full.bubbles(), 1);
        full.wall(2, 2);
        due.is("a new wall", full.bubbles(), 0);
        int[][] walls = {{1, 5}, {5, 1}, {5, 5}, {2, 5}, {5, 2}, {4, 4}};
        for (int[] wall : walls) {
            for (int odd = 0; odd < 2; odd++) {
                PaperBubbles x = new PaperBubbles();
                x.wall(wall[0], wall[1]);
                int many = 0;
                for (int cell = 0; cell < wall[0] * wall[1]; cell++) {
                    boolean air = (cell / wall[1] + cell % wall[1]) % 2 == odd;
                    x.set(cell, 0, air ? 1 : 0);
                    many += air ? 1 : 0;
                }
                due.is("a chessboard of " + wall[0] + " by " + wall[1], x.bubbles(), many);
            }
        }
        for (int columns = 2; columns <= 5; columns++) {
            PaperBubbles x = walled(2, columns);
            x.set(columns - 1, 0, 9);
            x.set(columns, 0, 9);
            due.is("the end of a row and the next row's begin", x.bubbles(), 2);
            x = walled(columns, 2);
            x.set(0, 0, 9);
            x.set(2, 0, 9);
            due.is("one below the other", x.bubbles(), 1);
        }
        // a U: both arms are met ahead of what hangs them together
        due.is("a U", walled(3, 3, 1, 0, 1, 1, 0, 1, 1, 1, 1).bubbles(), 1);
        due.is("a U turned", walled(3, 3, 1, 1, 1, 1, 0, 1, 1, 0, 1).bubbles(), 1);
        due.is("a ring about one", walled(5, 5, 1, 1, 1, 1, 1, 1, 0, 0, 0, 1, 1, 0, 1, 0, 1, 1, 0, 0, 0, 1, 1, 1, 1, 1,
            1).bubbles(), 2);
        PaperBubbles x = walled(1, 3, 5, 5, 5);
        Due.text(x, 1, "0");
        due.is("what isn't seen hangs, too", x.bubbles(), 1);
    }

    private static void biggest(Due due) {
        due.says(18, "what 0 its SIZE, 1 its least CELL; of several that with the least CELL");
        int[][] rows = {{1, 0, 0, 0, 0}, {0, 0, 0, 0, 1}, {3, 0, 3, 0, 3}, {2, 0, 3, 0, 3}, {2, 0, 3, 0, 4},
            {2, 2, 0, 3, 0}, {2, 1, 0, 3, 0}, {3, 0, 2, 1, 0}, {3, 0, 2, 2, 0}, {99, 0, 99, 99, 0}, {1, 1, 1, 0, 4}};
        int[][] want = {{1, 0}, {1, 4}, {3, 0}, {3, 2}, {4, 4}, {4, 0}, {3, 0}, {3, 0}, {4, 2}, {198, 2}, {4, 4}};
        for (int i = 0; i < rows.length; i++) {
            PaperBubbles x = walled(1, 5, rows[i]);
            due.is("row " + i + ": SIZE", x.biggest(0), want[i][0]);
            due.is("row " + i + ": least CELL", x.biggest(1), want[i][1]);
        }
        PaperBubbles x = full(99);
        due.is("a full wall", x.biggest(0), 2475);
        due.is("a full wall", x.biggest(1), 0);
        x = walled(3, 3, 0, 0, 1, 0, 1, 1, 1, 1, 0);
        due.is("its least CELL, not the one to the west", x.biggest(1), 2);
        // 1 0 2      the one on the right has more CELLS, the one on the left more AIR
        x = walled(3, 3, 9, 0, 2, 0, 0, 2, 0, 2, 2);
        due.is("by SIZE, not by CELLS", x.biggest(0), 9);
        due.is("by SIZE, not by CELLS", x.biggest(1), 0);
    }

    private static void biggestWrong(Due due) {
        due.says(18, "BEYOND. NONE: there are none");
        PaperBubbles x = new PaperBubbles();
        for (int what : WRONG_PARTS) {
            due.is("BEYOND ahead of NONE: biggest(" + what + ")", x.biggest(what), Due.BEYOND);
        }
        due.is("biggest(0)", x.biggest(0), Due.NONE);
        due.is("biggest(1)", x.biggest(1), Due.NONE);
        x.set(15, 0, 1);
        for (int what : WRONG_PARTS) {
            due.is("biggest(" + what + ")", x.biggest(what), Due.BEYOND);
        }
        due.is("AIR 1 in the last CELL", x.biggest(0), 1);
        due.is("AIR 1 in the last CELL", x.biggest(1), 15);
        due.is("told(1)", x.told(1), 8);
        due.is("told(2)", x.told(2), 2);
    }

    // ---- wayOut

    private static void wayOut(Due due) {
        due.says(19, "the least number of CELLS (itself not counted) to one at an OPEN EDGE (0: it is at one)");
        int[][] walls = {{1, 1}, {1, 5}, {5, 1}, {3, 4}, {5, 5}};
        for (int[] wall : walls) {
            for (int open = 1; open < 16; open++) {
                PaperBubbles x = walled(wall[0], wall[1]);
                for (int way = 0; way < 4; way++) {
                    x.edge(way, open >> way & 1);
                }
                for (int cell = 0; cell < wall[0] * wall[1]; cell++) {
                    int row = cell / wall[1];
                    int column = cell % wall[1];
                    int[] far = {row, wall[1] - 1 - column, wall[0] - 1 - row, column};
                    int least = 99;
                    for (int way = 0; way < 4; way++) {
                        least = (open >> way & 1) == 1 ? Math.min(least, far[way]) : least;
                    }
                    due.is(wall[0] + " by " + wall[1] + ", EDGES " + open + ", CELL " + cell, x.wayOut(cell), least);
                }
            }
        }
        PaperBubbles x = full(99);
        x.edge(0, 1);
        due.is("through CELLS with AIR, too", x.wayOut(24), 4);
        x.wall(5, 5);
        due.is("through CELLS without AIR, too", x.wayOut(24), 4);
    }

    private static void wayOutWrong(Due due) {
        due.says(19, "BEYOND. NONE: no EDGE is OPEN");
        PaperBubbles x = walled(2, 3);
        int[] wrong = {MIN, -1, 6, 16, MAX};
        for (int open = 0; open < 2; open++) {
            x.edge(2, open);
            for (int cell : wrong) {
                due.is("BEYOND ahead of NONE: wayOut(" + cell + ")", x.wayOut(cell), Due.BEYOND);
            }
            for (int cell = 0; cell < 6; cell++) {
                due.is("wayOut(" + cell + ")", x.wayOut(cell), open == 0 ? Due.NONE : 1 - cell / 3);
            }
        }
        x.edge(2, 0);
        due.is("shut again", x.wayOut(5), Due.NONE);
        due.is("told(1)", x.told(1), 10);
        due.is("told(2)", x.told(2), 7);
    }

    // ---- best, bestTwo

    private static void bestOfSeveral(Due due) {
        due.says(20, "that behind which SHOWN is least: 10 times the CELL and the WAY; of several the least");
        int[] shut = {0, 240, 10};
        for (int cell = 0; cell < 3; cell++) {
            PaperBubbles x = walled(5, 5);
            x.tool(50);
            x.set(shut[cell] / 10, 0, 99);
            due.is("KNIFE: the CELL with AIR, its first WAY", x.best(0, 0), shut[cell]);
            due.is("nothing is left", x.best(0, 1), 0);
        }
        PaperBubbles x = walled(1, 3, 10, 10, 10);
        x.tool(50);
        due.is("all as good", x.best(0, 0), 0);
        due.is("all as good", x.best(0, 1), 20);
        x.set(2, 0, 11);
        due.is("the last is better by 1", x.best(0, 0), 20);
        due.is("the last is better by 1", x.best(0, 1), 20);
        x.set(1, 0, 11);
        due.is("the last two", x.best(0, 0), 10);
        // each WAY of a CELL alone
        for (int way = 0; way < 4; way++) {
            for (int other = way; other < 4; other++) {
                x = walled(1, 1, 10);
                x.tool(30);
                x.edge(way, 1);
                x.edge(other, 1);
                due.is("the OPEN EDGES " + way + ", " + other, x.best(0, 0), way);
                due.is("SHOWN", x.best(0, 1), 0);
            }
        }
        x = walled(1, 2, 10, 10);
        x.tool(30);
        x.edge(0, 1);
        due.is("0 north, not 1 north", x.best(0, 0), 0);
        due.is("SHOWN", x.best(0, 1), 10);
        x.edge(3, 1);
        due.is("1 west takes both", x.best(0, 0), 13);
        due.is("1 west takes both", x.best(0, 1), 0);
        // two strokes of two CELLS are as good: 3 (CELL 0 west), 11 (CELL 1 east)
        x = walled(1, 2, 10, 10);
        x.tool(0);
        x.edge(3, 1);
        x.edge(1, 1);
        due.is("0 west, not 1 east", x.best(0, 0), 3);
        due.is("SHOWN", x.best(0, 1), 15);
        x = full(99);
        x.tool(0);
        Due.text(x, 0, "0");
        due.is("no stroke moves anything", x.best(0, 0), 0);
        due.is("the most that is SHOWN", x.best(0, 1), 2475);
        Due.text(x, 1, "99-a");
        due.is("what is seen is least where AIR is most", x.best(0, 1), 0);
    }

    private static void noneIsNoStroke(Due due) {
        due.says(20, "of all CELLS and WAYS: a STROKE it is, though none would be better");
        int[][] walls = {{1, 1}, {1, 3}, {3, 1}, {5, 5}};
        for (int[] wall : walls) {
            PaperBubbles x = walled(wall[0], wall[1]);
            int cells = wall[0] * wall[1];
            for (int cell = 0; cell < cells; cell++) {
                x.set(cell, 0, 8);
            }
            for (int way = 0; way < 4; way++) {
                x.edge(way, 1);
            }
            x.tool(20);
            Due.text(x, 1, "9-a");
            due.is("a NEEDLE lets 1", x.best(0, 1), cells + 1);
            due.is("the first", x.best(0, 0), 0);
            due.is("a NEEDLE lets 2", x.bestTwo(0, 1), cells + 2);
            due.is("the first", x.bestTwo(0, 0), 0);
        }
        PaperBubbles x = walled(1, 1, 8);
        for (int way = 0; way < 4; way++) {
            x.edge(way, 1);
        }
        x.tool(0);
        Due.text(x, 1, "9-a");
        due.is("4 go OUT, whatever the WAY", x.best(0, 1), 5);
        due.is("the first WAY", x.best(0, 0), 0);
        due.is("4 go OUT, then 2", x.bestTwo(0, 1), 7);
        due.is("the first WAY", x.bestTwo(0, 0), 0);
    }

    private static void bestWrong(Due due) {
        PaperBubbles x = new PaperBubbles();
        due.says(20, "BEYOND");
        due.is("best without TOOLS", x.best(0, 0), Due.BEYOND);
        due.is("bestTwo without TOOLS", x.bestTwo(0, 0), Due.BEYOND);
        x.tool(0);
        x.tool(0);
        int[] wrong = {MIN, -1, 2, 6, MAX};
        for (int tool : wrong) {
            due.is("best(" + tool + ", 0)", x.best(tool, 0), Due.BEYOND);
            due.is("bestTwo(" + tool + ", 0)", x.bestTwo(tool, 0), Due.BEYOND);
        }
        for (int what : WRONG_PARTS) {
            due.is("best(0, " + what + ")", x.best(0, what), Due.BEYOND);
            due.is("bestTwo(0, " + what + ")", x.bestTwo(0, what), Due.BEYOND);
        }
        due.is("the last TOOL", x.best(1, 1), 0);
        due.is("the last TOOL", x.bestTwo(1, 1), 0);
        due.is("told(1)", x.told(1), 2 + 10 + 8);
    }

    private static void bestTwoOfSeveral(Due due) {
        due.says(21, "the first one of two STROKES behind which SHOWN is least; of several the least first one");
        PaperBubbles x = walled(1, 1, 10);
        x.tool(20);
        due.is("a NEEDLE lets 1 twice", x.bestTwo(0, 1), 8);
        due.is("all as good", x.bestTwo(0, 0), 0);
        x.set(0, 0, 1);
        due.is("no more than there is", x.bestTwo(0, 1), 0);
        x.set(0, 0, 0);
        due.is("no AIR", x.bestTwo(0, 1), 0);
        // KNIFE: the two fullest CELLS, the lesser one first
        x = walled(1, 4, 5, 9, 7, 9);
        x.tool(50);
        due.is("the two fullest", x.bestTwo(0, 1), 12);
        due.is("the lesser one", x.bestTwo(0, 0), 10);
        due.is("the best one", x.best(0, 0), 10);
        x.set(3, 0, 10);
        due.is("the two fullest", x.bestTwo(0, 0), 10);
        due.is("the best one", x.best(0, 0), 30);
        x.set(1, 0, 0);
        due.is("the two fullest", x.bestTwo(0, 0), 20);
        x = walled(5, 5);
        x.tool(50);
        x.set(24, 0, 9);
        due.is("any first one does", x.bestTwo(0, 0), 0);
        x.set(23, 0, 9);
        due.is("the two last", x.bestTwo(0, 0), 230);
        due.is("nothing is left", x.bestTwo(0, 1), 0);
        x = full(99);
        x.tool(0);
        Due.text(x, 0, "0");
        due.is("the most that is SHOWN", x.bestTwo(0, 1), 2475);
        due.is("all as good", x.bestTwo(0, 0), 0);
    }

    private static void bestTwoByStrokes(Due due) {
        due.says(21, "two STROKES of it, one behind the other: as strokes that are done");
        int[] kms = {0, 13, 25, 30, 47, 59, 66};
        for (int i = 0; i < kms.length; i++) {
            int least = MAX;
            for (int first = 0; first < 16; first++) {
                PaperBubbles x = quarter(kms[i], i);
                x.stroke(0, first / 4, first % 4);
                x.image();
                for (int second = 0; second < 16; second++) {
                    x.restore();
                    x.stroke(0, second / 4, second % 4);
                    least = Math.min(least, 1000 * x.shown() + first / 4 * 10 + first % 4);
                }
            }
            PaperBubbles x = quarter(kms[i], i);
            due.is("the first one, km " + kms[i], x.bestTwo(0, 0), least % 1000);
            due.is("SHOWN behind both, km " + kms[i], x.bestTwo(0, 1), least / 1000);
        }
    }

    private static PaperBubbles quarter(int km, int i) {
        PaperBubbles x = walled(2, 2, 60 - i, 99, 30 + 5 * i, 41);
        x.tool(km);
        x.edge(i % 4, 1);
        Due.text(x, 1, i % 2 == 0 ? "a" : "a*(r+1)-c*9");
        return x;
    }

    // ---- goneBy, never, needs

    /** NIGHTS behind which AIR a with PASTE p is gone, or 99. */
    private static int gone(int a, int p) {
        int left = a;
        int paste = p;
        for (int night = 0; night <= 30; night++) {
            if (left == 0) {
                return night;
            }
            left = left > paste ? left - paste : 0;
            paste = paste > 0 ? paste - 1 : 0;
        }
        return 99;
    }

    private static void goneBy(Due due) {
        due.says(22, "behind how many NIGHTS (0 to 30) a CELL has no AIR first. NONE: not by 30");
        for (int p = 0; p <= 9; p++) {
            PaperBubbles x = new PaperBubbles();
            x.set(15, 1, p);
            for (int a = 0; a <= 99; a++) {
                x.set(15, 0, a);
                int nights = gone(a, p);
                due.is("AIR " + a + ", PASTE " + p, x.goneBy(15), nights > 30 ? Due.NONE : nights);
            }
        }
        // the nights themselves say the same
        PaperBubbles x = new PaperBubbles();
        x.set(0, 0, 15);
        due.is("5, 4, 3, 2, 1", x.goneBy(0), 5);
        due.is("nights(4)", x.nights(4), 1);
        due.is("one more", x.goneBy(0), 1);
        due.is("nights(1)", x.nights(1), 0);
        due.is("gone", x.goneBy(0), 0);
    }

    private static void goneByWrong(Due due) {
        due.says(22, "BEYOND. NONE: not by 30");
        PaperBubbles x = walled(3, 3, 99, 0, 0, 0, 0, 0, 0, 0, 1);
        int[] wrong = {MIN, -1, 9, 16, MAX};
        for (int cell : wrong) {
            due.is("goneBy(" + cell + ")", x.goneBy(cell), Due.BEYOND);
        }
        due.is("goneBy(0)", x.goneBy(0), Due.NONE);
        due.is("goneBy(8)", x.goneBy(8), 1);
        due.is("told(1)", x.told(1), 5);
        due.is("told(2)", x.told(2), 1);
    }

    private static void never(Due due) {
        due.says(23, "NEVER: CELLS that have AIR behind 30 NIGHTS");
        due.is("no AIR", new PaperBubbles().never(), 0);
        PaperBubbles x = full(99);
        due.is("all", x.never(), 25);
        for (int cell = 0; cell < 25; cell++) {
            x.set(cell, 1, 9);
        }
        for (int a = 44; a <= 47; a++) {
            x.set(0, 0, a);
            due.is("AIR " + a + ", PASTE 9", x.never(), a <= 45 ? 24 : 25);
        }
        x.wall(1, 1);
        for (int p = 0; p <= 9; p++) {
            int most = p * (p + 1) / 2;
            x.set(0, 1, p);
            x.set(0, 0, most);
            due.is("all that PASTE " + p + " takes", x.never(), 0);
            x.set(0, 0, most + 1);
            due.is("1 more than PASTE " + p + " takes", x.never(), 1);
        }
        x = walled(1, 3, 46, 1, 15);
        Due.pastes(x, 9, 0, 5);
        due.is("two of three", x.never(), 2);
        x.nights(30);
        due.is("those that stay", x.count(6), 2);
        due.is("AIR stays for ever", x.never(), 2);
    }

    private static void needs(Due due) {
        due.says(24, "the least PASTE (0 to 9), in place of its own, with which a CELL is GONE BY n NIGHTS at most");
        for (int tens = 0; tens < 10; tens++) {
            PaperBubbles x = new PaperBubbles();
            x.set(2, 1, 9 - tens);
            for (int a = 10 * tens; a < 10 * tens + 10; a++) {
                x.set(2, 0, a);
                for (int n = 0; n <= 30; n++) {
                    int least = 0;
                    while (least < 10 && gone(a, least) > n) {
                        least++;
                    }
                    due.is("AIR " + a + ", NIGHTS " + n, x.needs(2, n), least > 9 ? Due.NONE : least);
                }
            }
            due.is("its own PASTE stays", x.ofCell(2, 1), 9 - tens);
        }
    }

    private static void needsWrong(Due due) {
        due.says(24, "n NIGHTS (0 to 30). BEYOND. NONE: with none");
        PaperBubbles x = walled(2, 2, 99, 0, 0, 45);
        int[] wrong = {MIN, -1, 4, 16, MAX};
        for (int n : WRONG_NIGHTS) {
            due.is("BEYOND ahead of NONE: needs(0, " + n + ")", x.needs(0, n), Due.BEYOND);
            due.is("needs(1, " + n + ")", x.needs(1, n), Due.BEYOND);
        }
        for (int cell : wrong) {
            due.is("needs(" + cell + ", 30)", x.needs(cell, 30), Due.BEYOND);
            due.is("needs(" + cell + ", 31)", x.needs(cell, 31), Due.BEYOND);
        }
        due.is("needs(0, 30)", x.needs(0, 30), Due.NONE);
        due.is("needs(0, 0)", x.needs(0, 0), Due.NONE);
        due.is("needs(1, 0)", x.needs(1, 0), 0);
        due.is("needs(3, 9)", x.needs(3, 9), 9);
        due.is("needs(3, 8)", x.needs(3, 8), Due.NONE);
        due.is("told(1)", x.told(1), 18);
        due.is("told(2)", x.told(2), 3);
    }

    // ---- lamp

    private static void lamp(Due due) {
        due.says(25, "CELLS with AIR, those with more AIR than each CELL between them and that EDGE");
        int[][] rows = {{0, 0, 0}, {1, 0, 0}, {0, 0, 1}, {1, 1, 1}, {1, 2, 3}, {3, 2, 1}, {2, 1, 2}, {2, 1, 3},
            {1, 3, 2}, {0, 1, 0}, {99, 99, 98}, {98, 99, 99}};
        // from the west, from the east
        int[][] lit = {{0, 0}, {1, 1}, {1, 1}, {1, 1}, {3, 1}, {1, 3}, {1, 1}, {2, 1}, {2, 2}, {1, 1}, {1, 2}, {2, 1}};
        for (int i = 0; i < rows.length; i++) {
            PaperBubbles x = walled(1, 3, rows[i]);
            int with = x.count(6);
            due.is("row " + i + " from the west", x.lamp(3), lit[i][0]);
            due.is("row " + i + " from the east", x.lamp(1), lit[i][1]);
            due.is("row " + i + " from the north: each is at the EDGE", x.lamp(0), with);
            due.is("row " + i + " from the south: each is at the EDGE", x.lamp(2), with);
            x = walled(3, 1, rows[i]);
            due.is("column " + i + " from the north", x.lamp(0), lit[i][0]);
            due.is("column " + i + " from the south", x.lamp(2), lit[i][1]);
            due.is("column " + i + " from the west: each is at the EDGE", x.lamp(3), with);
            due.is("column " + i + " from the east: each is at the EDGE", x.lamp(1), with);
        }
        PaperBubbles x = full(99);
        for (int way = 0; way < 4; way++) {
            due.is("a full wall", x.lamp(way), 5);
        }
        x.wall(1, 1);
        for (int way = 0; way < 4; way++) {
            due.is("one CELL without AIR", x.lamp(way), 0);
        }
        x.set(0, 0, 1);
        for (int way = 0; way < 4; way++) {
            due.is("one CELL with AIR", x.lamp(way), 1);
        }
        // the CELL right ahead is less, one further ahead is as much
        x = walled(1, 5, 7, 3, 7, 8, 8);
        due.is("than each CELL between", x.lamp(3), 2);
        x = walled(5, 1, 7, 3, 5, 4, 7);
        due.is("than each CELL between", x.lamp(0), 1);
    }

    private static void lampWrong(Due due) {
        due.says(25, "BEYOND");
        PaperBubbles x = full(1);
        for (int way : WRONG_WAYS) {
            due.is("lamp(" + way + ")", x.lamp(way), Due.BEYOND);
        }
        due.is("told(1)", x.told(1), 4);
    }

    // ---- came

    private static void sheetOf(PaperBubbles x, int sheet, int bits, int... numbers) {
        x.sheet(sheet, bits, numbers.length);
        for (int i = 0; i < numbers.length; i++) {
            x.put(sheet, i, numbers[i]);
        }
    }

    private static void cameByKind(Due due) {
        due.says(26, "the least KIND as which a TOOL, with its m, by a STROKE told, makes THE WALL so");
        // with m 3, at CELL 0, to the east: what each KIND makes of 20 6 4
        int[][] made = {{10, 16, 4}, {9, 17, 4}, {16, 6, 4}, {0, 0, 30}, {15, 11, 4}, {0, 6, 4}, {3, 3, 24}};
        for (int is = 0; is < 7; is++) {
            PaperBubbles x = walled(1, 3, 20, 6, 4);
            x.tool(10 * is + 3);
            for (int kind = 0; kind < 7; kind++) {
                sheetOf(x, kind % 4, 8 << kind % 3, made[kind]);
                due.is("a TOOL of KIND " + is + ", as " + kind, x.came(0, 0, 1, kind % 4), kind);
            }
            due.is("it stays what it is", x.ofTool(0, 0), is);
            due.rows("AIR stays", Due.all(x, 0), 20, 6, 4);
            sheetOf(x, 0, 8, 3, 3, 25);
            due.is("by none", x.came(0, 0, 1, 0), Due.NONE);
            sheetOf(x, 0, 8, 3, 3, 24);
            x.become(0, 10 * is + 4);
            due.is("with its m", x.came(0, 0, 1, 0), Due.NONE);
            x.become(0, 10 * is + 3);
            due.is("by another CELL", x.came(0, 1, 1, 0), Due.NONE);
            due.is("by another WAY", x.came(0, 0, 2, 0), Due.NONE);
            due.is("told(2)", x.told(2), 4);
        }
        PaperBubbles x = walled(1, 3);
        x.tool(69);
        x.sheet(0, 8, 3);
        due.is("by all: the least", x.came(0, 0, 1, 0), 0);
        x = walled(1, 2, 1, 0);
        x.tool(69);
        sheetOf(x, 0, 8, 0, 1);
        due.is("AIR 1: BRUSH and ROLLER", x.came(0, 0, 1, 0), 1);
        sheetOf(x, 0, 8, 1, 0);
        due.is("AIR 1: TOOL, SOFT and HARD", x.came(0, 0, 1, 0), 0);
        sheetOf(x, 0, 8, 0, 0);
        due.is("AIR 1: NEEDLE and KNIFE", x.came(0, 0, 1, 0), 2);
    }

    private static void cameBySheet(Due due) {
        due.says(26, "a SHEET tells AIR of all CELLS (as many numbers just). NONE: missing, hasn't as many numbers");
        for (int rows = 1; rows <= 5; rows += 2) {
            for (int columns = 1; columns <= 5; columns++) {
                PaperBubbles x = walled(rows, columns);
                x.tool(0);
                int cells = rows * columns;
                for (int n = cells - 1; n <= cells + 1; n++) {
                    x.sheet(1, 16, n);
                    due.is(n + " numbers of " + cells, x.came(0, cells - 1, 0, 1), n == cells ? 0 : Due.NONE);
                }
                x.sheet(1, 32, 40);
                due.is("40 numbers of " + cells, x.came(0, 0, 0, 1), Due.NONE);
                x.sheet(1, 32, 0);
                due.is("no numbers of " + cells, x.came(0, 0, 0, 1), Due.NONE);
                x.sheet(1, 0, cells);
                due.is("missing", x.came(0, 0, 0, 1), Due.NONE);
                due.is("told(2)", x.told(2), 5);
            }
        }
        PaperBubbles x = walled(1, 2, 10, 0);
        x.tool(0);
        sheetOf(x, 0, 16, 5 + 256, 5);
        due.is("261 is no 5", x.came(0, 0, 1, 0), Due.NONE);
        sheetOf(x, 0, 32, 5, 5 + 65536);
        due.is("65541 is no 5", x.came(0, 0, 1, 0), Due.NONE);
        sheetOf(x, 0, 32, -5, 5);
        due.is("-5 is no 5", x.came(0, 0, 1, 0), Due.NONE);
        sheetOf(x, 0, 8, 5 + 256, 5);
        due.is("of 8 bits it is", x.came(0, 0, 1, 0), 0);
    }

    private static void cameWrong(Due due) {
        due.says(26, "BEYOND. NONE");
        PaperBubbles x = walled(1, 3);
        int[][] wrong = {{1, 0, 0, 0}, {-1, 0, 0, 0}, {MIN, 0, 0, 0}, {MAX, 0, 0, 0}, {0, 3, 0, 0}, {0, -1, 0, 0},
            {0, MIN, 0, 0}, {0, MAX, 0, 0}, {0, 0, 4, 0}, {0, 0, -1, 0}, {0, 0, MIN, 0}, {0, 0, MAX, 0}, {0, 0, 0, 4},
            {0, 0, 0, -1}, {0, 0, 0, MIN}, {0, 0, 0, MAX}, {1, 3, 4, 4}};
        due.is("without TOOLS", x.came(0, 0, 0, 0), Due.BEYOND);
        x.tool(0);
        // missing, then with too many numbers, then with such as no STROKE makes
        for (int round = 0; round < 3; round++) {
            for (int[] w : wrong) {
                due.is("BEYOND ahead of NONE: came(" + java.util.Arrays.toString(w) + ")",
                    x.came(w[0], w[1], w[2], w[3]), Due.BEYOND);
            }
            due.is("NONE", x.came(0, 2, 3, 0), Due.NONE);
            sheetOf(x, 0, 8, round == 0 ? new int[4] : new int[] {1, 2, 3});
        }
        due.is("told(1)", x.told(1), 1 + 3 * wrong.length);
        due.is("told(2)", x.told(2), 3);
    }

    // ---- odds

    private static void oddsOfWays(Due due) {
        due.says(27, "that SHOWN is v at most behind it: a fraction in lowest terms (0 is 0 by 1)");
        int[][] fractions = {{0, 1}, {1, 4}, {1, 2}, {3, 4}, {1, 1}};
        for (int open = 0; open < 16; open++) {
            PaperBubbles x = walled(1, 1, 40);
            x.tool(30);
            int ways = 0;
            for (int way = 0; way < 4; way++) {
                x.edge(way, open >> way & 1);
                ways += open >> way & 1;
            }
            for (int part = 0; part < 2; part++) {
                due.is("EDGES " + open + ", v 0", x.odds(0, 0, 0, part), fractions[ways][part]);
                due.is("EDGES " + open + ", v 39", x.odds(0, 0, 39, part), fractions[ways][part]);
                due.is("EDGES " + open + ", v 40", x.odds(0, 0, 40, part), fractions[4][part]);
                due.is("EDGES " + open + ", v 9999", x.odds(0, 0, 9999, part), fractions[4][part]);
            }
            due.is("AIR stays", x.count(2), 40);
        }
        PaperBubbles x = full(99);
        x.tool(0);
        Due.text(x, 0, "0");
        due.is("the most that is SHOWN, less 1", x.odds(0, 24, 2474, 0), 0);
        due.is("the most that is SHOWN, less 1", x.odds(0, 24, 2474, 1), 1);
        due.is("the most that is SHOWN", x.odds(0, 24, 2475, 0), 1);
        due.is("the most that is SHOWN", x.odds(0, 24, 2475, 1), 1);
    }

    private static void oddsWrong(Due due) {
        due.says(27, "BEYOND: also v that isn't 0 to 9999");
        PaperBubbles x = walled(1, 2, 5, 5);
        due.is("without TOOLS", x.odds(0, 0, 0, 0), Due.BEYOND);
        x.tool(0);
        int[][] wrong = {{1, 0, 0, 0}, {-1, 0, 0, 0}, {MIN, 0, 0, 0}, {MAX, 0, 0, 0}, {0, 2, 0, 0}, {0, -1, 0, 0},
            {0, MIN, 0, 0}, {0, MAX, 0, 0}, {0, 0, -1, 0}, {0, 0, 10000, 0}, {0, 0, MIN, 0}, {0, 0, MAX, 0},
            {0, 0, 0, 2}, {0, 0, 0, -1}, {0, 0, 0, MIN}, {0, 0, 0, MAX}, {0, 0, 10000, 1}, {0, 0, -1, 1}};
        for (int[] w : wrong) {
            due.is("odds(" + java.util.Arrays.toString(w) + ")", x.odds(w[0], w[1], w[2], w[3]), Due.BEYOND);
        }
        due.is("v 9999", x.odds(0, 1, 9999, 1), 1);
        due.is("v 0", x.odds(0, 1, 0, 1), 1);
        due.is("told(1)", x.told(1), 1 + wrong.length);
    }
}
