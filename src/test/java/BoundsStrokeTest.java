/** Promises 13 to 15, sentence by sentence, where they name a least, a greatest, an empty or a full thing. */
public final class BoundsStrokeTest {
    private static final int MIN = Integer.MIN_VALUE;
    private static final int MAX = Integer.MAX_VALUE;

    public static void main(String[] args) {
        Due due = new Due("BoundsStrokeTest");
        movesOfAir(due);
        movesByText(due);
        letsOfAir(due);
        tearsByPaste(due);
        tearsOnce(due);
        reach(due);
        fullCells(due);
        fourEdges(due);
        corners(due);
        outIsHeld(due);
        strokeWrong(due);
        pasteByNight(due);
        thirtyNights(due);
        lastNights(due);
        daysWrong(due);
        daysByDraws(due);
        due.end();
    }

    /** A wall of one row with a TOOL, EDGES as at first. */
    private static PaperBubbles row(int columns, int km) {
        PaperBubbles x = new PaperBubbles();
        x.wall(1, columns);
        x.tool(km);
        return x;
    }

    private static void movesOfAir(Due due) {
        due.says(13, "MOVES (without a TEXT v is a/2; in the end no more than a); LETS");
        int[] airs = {0, 1, 2, 3, 4, 5, 8, 9, 10, 11, 50, 98, 99};
        for (int km = 0; km < 70; km++) {
            int m = km % 10;
            PaperBubbles x = row(2, km);
            int out = 0;
            for (int a : airs) {
                Due.airs(x, a, 0);
                int[] moves = {a / 2, Math.min(a, a / 2 + 1), 0, a, (a / 2 + 1) / 2, 0, Math.max(0, a - m)};
                int[] lets = {0, 0, Math.min(a, m + 1), 0, 0, a, 0};
                int moved = moves[km / 10];
                int let = lets[km / 10];
                out += let;
                String what = "km " + km + ", AIR " + a;
                due.is(what + ": stroke", x.stroke(0, 0, 1), a - moved - let);
                due.is(what + ": AIR", x.ofCell(0, 0), a - moved - let);
                due.is(what + ": next AIR", x.ofCell(1, 0), moved);
                due.is(what + ": OUT", x.count(4), out);
            }
        }
    }

    private static void movesByText(Due due) {
        due.says(13, "MOVES by v, what the TEXT gives; in the end no more than a");
        int[][] cases = {{0, 0, 1, 0}, {1, 1, 2, 1}, {9, 9, 10, 5}, {10, 10, 10, 5}, {11, 10, 10, 6}, {18, 10, 10, 9},
            {19, 10, 10, 10}, {20, 10, 10, 10}, {21, 10, 10, 10}, {99, 10, 10, 10}};
        int[] kinds = {0, 1, 4};
        for (int[] row : cases) {
            for (int i = 0; i < 3; i++) {
                PaperBubbles x = row(2, 10 * kinds[i]);
                Due.text(x, 0, "" + row[0]);
                x.set(0, 0, 10);
                x.stroke(0, 0, 1);
                due.is("v " + row[0] + ", KIND " + kinds[i], x.ofCell(1, 0), row[i + 1]);
                due.is("v " + row[0] + ", KIND " + kinds[i], x.ofCell(0, 0), 10 - row[i + 1]);
                x.set(1, 0, 0);
                x.set(0, 0, 0);
                x.stroke(0, 0, 1);
                due.is("of no AIR none", x.count(2), 0);
            }
        }
        PaperBubbles x = row(3, 7);
        Due.text(x, 0, "a+p+m");
        Due.airs(x, 50, 9, 9);
        Due.text(x, 0, "p*3+m");
        Due.pastes(x, 9, 0, 0);
        due.is("by its own PASTE and m", x.stroke(0, 0, 1), 50 - 27 - 7);
        Due.pastes(x, 0, 9, 9);
        Due.airs(x, 50, 9, 9);
        due.is("by its own PASTE and m", x.stroke(0, 0, 1), 50 - 7);
        Due.pastes(x, 9, 3, 9);
        Due.airs(x, 50, 50, 9);
        due.is("by its own PASTE and m", x.stroke(0, 1, 1), 50 - 9 - 7);
        Due.pastes(x, 9, 9, 2);
        Due.airs(x, 50, 50, 60);
        due.is("by its own PASTE and m", x.stroke(0, 2, 3), 60 - 6 - 7);
        // HARD: 0 at least
        x = row(3, 69);
        Due.airs(x, 5, 20, 0);
        due.is("HARD, m above AIR", x.stroke(0, 0, 1), 5);
        due.rows("HARD goes on with the next", Due.all(x, 0), 5, 9, 11);
        Due.airs(x, 9, 0, 0);
        due.is("HARD, m as AIR", x.stroke(0, 0, 1), 9);
        Due.airs(x, 10, 0, 0);
        due.is("HARD, m below AIR", x.stroke(0, 0, 1), 9);
        due.rows("HARD, m below AIR", Due.all(x, 0), 9, 1, 0);
        Due.airs(x, 0, 0, 0);
        due.is("HARD, no AIR", x.stroke(0, 0, 1), 0);
        due.is("HARD, no AIR", x.count(2), 0);
    }

    private static void letsOfAir(Due due) {
        due.says(13, "LETS (in the end no more than a) goes OUT");
        for (int m = 0; m <= 9; m++) {
            PaperBubbles x = row(2, 20 + m);
            int out = 0;
            for (int a = m; a <= m + 2; a++) {
                Due.airs(x, a, 50);
                due.is("NEEDLE, m " + m + ", AIR " + a, x.stroke(0, 0, 1), Math.max(0, a - m - 1));
                out += Math.min(a, m + 1);
                due.is("OUT", x.count(4), out);
                due.is("the next stays", x.ofCell(1, 0), 50);
            }
            x.become(0, 50 + m);
            x.set(0, 0, 99);
            due.is("KNIFE, m " + m, x.stroke(0, 0, 0), 0);
            due.is("OUT", x.count(4), out + 99);
        }
    }

    private static void tearsByPaste(Due due) {
        due.says(13, "HOLES are more by TEARS (by PASTE p): NEEDLE below 3, KNIFE and 1, HARD above 7");
        for (int kind = 0; kind < 7; kind++) {
            PaperBubbles x = row(1, 10 * kind + 4);
            int holes = 0;
            for (int p = 0; p <= 9; p++) {
                int[] tears = {0, 0, p < 3 ? 1 : 0, 0, 0, p < 3 ? 2 : 1, p > 7 ? 1 : 0};
                x.set(0, 1, p);
                x.stroke(0, 0, 2);
                holes += tears[kind];
                due.is("HOLES, KIND " + kind + ", PASTE " + p, x.count(3), holes);
            }
        }
    }

    private static void tearsOnce(Due due) {
        due.says(13, "HOLES are more by TEARS. Then, as often as REACH tells: ..");
        PaperBubbles x = row(5, 65);
        Due.pastes(x, 9, 9, 9, 9, 9);
        Due.airs(x, 50, 9, 9, 9, 9);
        x.stroke(0, 0, 1);
        due.is("once, however far it goes", x.count(3), 1);
        Due.pastes(x, 0, 9, 9, 9, 9);
        x.stroke(0, 0, 1);
        due.is("by the CELL told", x.count(3), 1);
        Due.pastes(x, 9, 0, 0, 0, 0);
        x.stroke(0, 0, 1);
        due.is("by the CELL told", x.count(3), 2);
        due.is("PASTE stays", x.ofCell(0, 1), 9);
        x.stroke(0, 0, 0);
        due.is("at a shut EDGE, too", x.count(3), 3);
        x.set(0, 0, 0);
        x.stroke(0, 0, 1);
        due.is("without AIR, too", x.count(3), 4);
        due.is("no AIR goes OUT", x.count(4), 0);
    }

    private static void reach(Due due) {
        due.says(13, "as often as REACH tells, and that one is the CELL from then on");
        int[] ways = {1, 3, 2, 0};
        for (int i = 0; i < 4; i++) {
            for (int m = 0; m <= 9; m++) {
                PaperBubbles x = new PaperBubbles();
                x.wall(i < 2 ? 1 : 5, i < 2 ? 5 : 1);
                x.tool(60 + m);
                boolean back = ways[i] == 0 || ways[i] == 3;
                int first = back ? 4 : 0;
                int step = back ? -1 : 1;
                x.set(first, 0, 90);
                due.is("HARD, m " + m, x.stroke(0, first, ways[i]), m);
                int far = 2 + m % 3;
                for (int k = 0; k < 5; k++) {
                    due.is("way " + ways[i] + ", m " + m + ", AIR " + k + " far", x.ofCell(first + step * k, 0),
                        k < far ? m : k == far ? 90 - far * m : 0);
                }
            }
        }
        int[][] airs = {{0, 40, 0, 0}, {0, 40, 0, 0}, {39, 0, 0, 0}, {0, 0, 40, 0}, {0, 40, 0, 0}, {0, 0, 0, 0},
            {0, 0, 40, 0}};
        for (int kind = 0; kind < 7; kind++) {
            PaperBubbles x = row(4, 10 * kind);
            Due.text(x, 0, "99");
            x.set(0, 0, 40);
            x.stroke(0, 0, 1);
            due.rows("KIND " + kind, Due.all(x, 0), airs[kind]);
        }
        PaperBubbles x = row(3, 30);
        Due.airs(x, 1, 2, 3);
        due.is("AIR met on the way goes on, too", x.stroke(0, 0, 1), 0);
        due.rows("AIR met on the way goes on, too", Due.all(x, 0), 0, 0, 6);
        x = row(2, 62);
        Due.airs(x, 50, 7);
        x.edge(1, 1);
        due.is("the end is at the EDGE", x.stroke(0, 0, 1), 2);
        due.rows("the end is at the EDGE", Due.all(x, 0), 2, 2);
        due.is("OUT", x.count(4), 53);
    }

    private static void fullCells(Due due) {
        due.says(13, "99 at most there, the rest goes OUT");
        int[][] cases = {{0, 0}, {0, 99}, {1, 97}, {1, 98}, {1, 99}, {2, 97}, {2, 98}, {98, 1}, {98, 2}, {99, 0},
            {99, 1}, {99, 99}};
        for (int way = 0; way < 4; way++) {
            PaperBubbles x = new PaperBubbles();
            x.wall(way % 2 == 0 ? 2 : 1, way % 2 == 0 ? 1 : 2);
            x.tool(0);
            Due.text(x, 0, "a");
            int from = way == 0 || way == 3 ? 1 : 0;
            int out = 0;
            for (int[] c : cases) {
                x.set(from, 0, c[0]);
                x.set(1 - from, 0, c[1]);
                due.is(c[0] + " go on to " + c[1], x.stroke(0, from, way), 0);
                out += Math.max(0, c[0] + c[1] - 99);
                due.is(c[0] + " go on to " + c[1], x.ofCell(1 - from, 0), Math.min(99, c[0] + c[1]));
                due.is("OUT", x.count(4), out);
            }
        }
    }

    private static void fourEdges(Due due) {
        due.says(13, "if there is none, they go OUT, if that EDGE is OPEN (else they stay), and that is the end");
        for (int open = 0; open < 16; open++) {
            PaperBubbles x = new PaperBubbles();
            x.wall(1, 1);
            x.tool(31);
            for (int way = 0; way < 4; way++) {
                x.edge(way, open >> way & 1);
            }
            int out = 0;
            for (int way = 0; way < 4; way++) {
                x.set(0, 0, 40 + way);
                boolean goes = (open >> way & 1) == 1;
                due.is("EDGES " + open + ", way " + way, x.stroke(0, 0, way), goes ? 0 : 40 + way);
                out += goes ? 40 + way : 0;
                due.is("OUT", x.count(4), out);
            }
        }
    }

    private static void corners(Due due) {
        due.says(13, "the next CELL that WAY: no CELL of another row or column");
        for (int way = 0; way < 4; way++) {
            PaperBubbles x = new PaperBubbles();
            x.wall(3, 4);
            x.tool(0);
            Due.text(x, 0, "a");
            int[] steps = {-4, 1, 4, -1};
            for (int cell = 0; cell < 12; cell++) {
                int row = cell / 4 + (way == 2 ? 1 : way == 0 ? -1 : 0);
                int column = cell % 4 + (way == 1 ? 1 : way == 3 ? -1 : 0);
                boolean stays = row < 0 || row > 2 || column < 0 || column > 3;
                x.set(cell, 0, 10);
                String what = "way " + way + " from " + cell;
                due.is(what, x.stroke(0, cell, way), stays ? 10 : 0);
                int there = stays ? cell : cell + steps[way];
                due.is(what + ": AIR there", x.ofCell(there, 0), 10);
                due.is(what + ": AIR of all", x.count(2), 10);
                x.set(there, 0, 0);
            }
            due.is("OUT", x.count(4), 0);
        }
    }

    /** OUT 99998, by strokes whose rest goes OUT. */
    private static PaperBubbles nearlyAll() {
        PaperBubbles x = new PaperBubbles();
        x.wall(5, 5);
        x.tool(62);
        x.sheet(0, 8, 25);
        for (int i = 0; i < 25; i++) {
            x.put(0, i, 99);
        }
        // each HARD stroke along a full row lets 4 times 97 go OUT
        for (int i = 0; i < 257; i++) {
            if (i % 5 == 0) {
                x.airs(0);
            }
            x.stroke(0, i % 5 * 5, 1);
        }
        x.become(0, 50);
        x.wall(1, 3);
        int[] airs = {99, 99, 84};
        for (int cell = 0; cell < 3; cell++) {
            x.set(cell, 0, airs[cell]);
            x.stroke(0, cell, 0);
        }
        x.image();
        return x;
    }

    private static void outIsHeld(Due due) {
        due.says(13, "OUT (AIR that went out; 99999 at most)");
        PaperBubbles x = nearlyAll();
        due.is("OUT", x.count(4), 99998);
        int[] airs = {0, 1, 2, 99};
        int[] outs = {99998, 99999, 99999, 99999};
        for (int i = 0; i < 4; i++) {
            x.restore();
            due.is("OUT again", x.count(4), 99998);
            x.set(0, 0, airs[i]);
            due.is("by LETS: " + airs[i], x.stroke(0, 0, 1), 0);
            due.is("OUT", x.count(4), outs[i]);
            x.restore();
            x.become(0, 30);
            x.edge(3, 1);
            x.set(0, 0, airs[i]);
            due.is("over an EDGE: " + airs[i], x.stroke(0, 0, 3), 0);
            due.is("OUT", x.count(4), outs[i]);
            x.restore();
            x.become(0, 60);
            x.set(1, 0, airs[i]);
            x.set(2, 0, 99);
            due.is("what is more than 99: " + airs[i], x.stroke(0, 1, 1), 0);
            due.is("99 there", x.ofCell(2, 0), 99);
            due.is("OUT", x.count(4), outs[i]);
            x.set(0, 0, 77);
            x.become(0, 50);
            x.stroke(0, 0, 1);
            due.is("OUT, once more", x.count(4), 99999);
        }
        x.tool(30);
        x.set(2, 0, 99);
        x.seed(1);
        due.is("days(30)", x.days(30) >= 0 ? 1 : 0, 1);
        due.is("OUT stays", x.count(4), 99999);
        x.wall(5, 5);
        due.is("OUT stays", x.count(4), 99999);
    }

    private static void strokeWrong(Due due) {
        due.says(13, "A STROKE: AIR of the CELL told then. BEYOND");
        PaperBubbles x = row(3, 50);
        Due.airs(x, 10, 20, 30);
        int[][] wrong = {{1, 0, 0}, {6, 0, 0}, {-1, 0, 0}, {MIN, 0, 0}, {MAX, 0, 0}, {0, 3, 0}, {0, 16, 0}, {0, -1, 0},
            {0, MIN, 0}, {0, MAX, 0}, {0, 0, 4}, {0, 0, -1}, {0, 0, MIN}, {0, 0, MAX}, {1, 3, 4}};
        for (int[] w : wrong) {
            due.is("stroke(" + w[0] + ", " + w[1] + ", " + w[2] + ")", x.stroke(w[0], w[1], w[2]), Due.BEYOND);
        }
        due.is("AIR stays", x.count(2), 60);
        due.is("OUT stays", x.count(4), 0);
        due.is("HOLES stay", x.count(3), 0);
        due.is("told(1)", x.told(1), wrong.length);
        due.is("the last CELL, the last WAY", x.stroke(0, 2, 3), 0);
        x.become(0, 30);
        Due.airs(x, 10, 20, 0);
        due.is("AIR of the CELL told, not of the last one", x.stroke(0, 0, 1), 0);
        due.is("no TOOLS", new PaperBubbles().stroke(0, 0, 0), Due.BEYOND);
    }

    private static void pasteByNight(Due due) {
        due.says(14, "AIR is less by PASTE (0 at least), then PASTE is 1 less (0 at least)");
        PaperBubbles x = new PaperBubbles();
        x.wall(5, 5);
        int[] airs = {0, 1, 2, 3, 4, 5, 6, 8, 9, 10, 99};
        for (int p = 0; p <= 9; p++) {
            for (int i = 0; i < airs.length; i++) {
                x.set(i, 0, airs[i]);
                x.set(i, 1, p);
            }
            int all = 0;
            for (int a : airs) {
                all += Math.max(0, a - p);
            }
            due.is("nights(1), PASTE " + p, x.nights(1), all);
            for (int i = 0; i < airs.length; i++) {
                due.is("AIR " + airs[i] + ", PASTE " + p, x.ofCell(i, 0), Math.max(0, airs[i] - p));
            }
            due.is("PASTE " + p + " then", x.ofCell(0, 1), Math.max(0, p - 1));
            due.is("NIGHT is 1 more", x.count(5), p + 1);
        }
        due.is("what a NIGHT takes doesn't go OUT", x.count(4), 0);
    }

    private static void thirtyNights(Due due) {
        due.says(14, "n (1 to 30) NIGHTS: AIR of all CELLS together then. BEYOND");
        int[] wrong = {MIN, -1, 0, 31, 32, 999, MAX};
        PaperBubbles x = new PaperBubbles();
        x.set(0, 0, 99);
        x.set(15, 0, 50);
        for (int n : wrong) {
            due.is("nights(" + n + ")", x.nights(n), Due.BEYOND);
        }
        due.is("AIR stays", x.count(2), 149);
        due.is("NIGHT stays", x.count(5), 0);
        due.is("told(1)", x.told(1), wrong.length);
        x.image();
        for (int n = 1; n <= 30; n++) {
            x.restore();
            int left = 0;
            for (int night = 0; night < n; night++) {
                left += Math.max(0, 5 - night);
            }
            due.is("nights(" + n + ")", x.nights(n), 149 - 2 * left);
            due.is("NIGHT", x.count(5), n);
            due.is("PASTE", x.ofCell(15, 1), Math.max(0, 5 - n));
        }
    }

    private static void lastNights(Due due) {
        due.says(14, "STATE: NIGHT would be above 999");
        PaperBubbles x = new PaperBubbles();
        x.tool(20);
        for (int i = 0; i < 32; i++) {
            x.nights(30);
        }
        int[] nights = {969, 970, 998, 999};
        int[][] fine = {{1, 29, 30}, {1, 28, 29}, {1}, {}};
        int[][] late = {{}, {30}, {2, 3, 30}, {1, 2, 30}};
        int[] steps = {9, 1, 28, 1};
        int state = 0;
        for (int i = 0; i < 4; i++) {
            x.nights(steps[i]);
            x.set(0, 0, 60);
            x.image();
            due.is("NIGHT", x.count(5), nights[i]);
            for (int n : late[i]) {
                due.is("nights(" + n + ") at " + nights[i], x.nights(n), Due.STATE);
                due.is("days(" + n + ") at " + nights[i], x.days(n), Due.STATE);
                state += 2;
                due.is("NIGHT stays", x.count(5), nights[i]);
            }
            due.is("told(3)", x.told(3), state);
            due.is("BEYOND ahead of STATE", x.nights(31), Due.BEYOND);
            due.is("BEYOND ahead of STATE", x.nights(0), Due.BEYOND);
            due.is("BEYOND ahead of STATE", x.days(31), Due.BEYOND);
            due.is("BEYOND ahead of STATE", x.days(0), Due.BEYOND);
            for (int n : fine[i]) {
                due.is("nights(" + n + ") at " + nights[i], x.nights(n), 60);
                due.is("NIGHT", x.count(5), nights[i] + n);
                x.restore();
                due.is("days(" + n + ") at " + nights[i], x.days(n) >= 0 ? 1 : 0, 1);
                due.is("NIGHT", x.count(5), nights[i] + n);
                x.restore();
            }
        }
    }

    private static void daysWrong(Due due) {
        due.says(15, "n (1 to 30) DAYS by draws. BEYOND. STATE: NIGHT would be above 999; there are no TOOLS");
        PaperBubbles x = new PaperBubbles();
        x.set(3, 0, 90);
        int[] wrong = {MIN, -1, 0, 31, MAX};
        for (int n : wrong) {
            due.is("without TOOLS: days(" + n + ")", x.days(n), Due.BEYOND);
        }
        due.is("without TOOLS: days(1)", x.days(1), Due.STATE);
        due.is("without TOOLS: days(30)", x.days(30), Due.STATE);
        x.tool(20);
        for (int n : wrong) {
            due.is("days(" + n + ")", x.days(n), Due.BEYOND);
        }
        due.is("AIR stays", x.count(2), 90);
        due.is("NIGHT stays", x.count(5), 0);
        due.is("z stays", x.count(11), 1);
        due.is("told(1)", x.told(1), 10);
        due.is("told(3)", x.told(3), 2);
        x.image();
        for (int n = 1; n <= 30; n++) {
            x.restore();
            due.is("days(" + n + ")", x.days(n) >= 0 ? 1 : 0, 1);
            due.is("NIGHT", x.count(5), n);
            due.is("three draws a day", x.count(11), drawn(1, 3 * n));
        }
    }

    private static int drawn(int z, int draws) {
        int at = z;
        for (int i = 0; i < draws; i++) {
            at = at * 1103515245 + 12345;
        }
        return at;
    }

    private static void daysByDraws(Due due) {
        due.says(15, "three draws: a TOOL, a CELL, a WAY by their rests (by how many there are; 4); then a NIGHT");
        int[][] walls = {{1, 1}, {1, 5}, {5, 1}, {2, 3}, {5, 5}, {4, 4}};
        int[] seeds = {1, 0, -1, MIN, MAX, 987654321};
        for (int tools = 1; tools <= 6; tools++) {
            for (int w = 0; w < 6; w++) {
                int seed = seeds[(tools + w) % 6];
                PaperBubbles x = filled(tools, walls[w], seed);
                PaperBubbles y = filled(tools, walls[w], seed);
                int cells = walls[w][0] * walls[w][1];
                int z = seed;
                int all = 0;
                for (int day = 0; day < 30; day++) {
                    int tool = (drawn(z, 1) >>> 8) % tools;
                    int cell = (drawn(z, 2) >>> 8) % cells;
                    z = drawn(z, 3);
                    y.stroke(tool, cell, (z >>> 8) % 4);
                    all = y.nights(1);
                }
                String what = tools + " TOOLS, " + cells + " CELLS, seed " + seed;
                due.is(what + ": days(30)", x.days(30), all);
                due.is(what + ": z", x.count(11), z);
                due.is(what + ": OUT", x.count(4), y.count(4));
                due.is(what + ": HOLES", x.count(3), y.count(3));
                due.rows(what + ": AIR", Due.all(x, 0), Due.all(y, 0));
            }
        }
    }

    private static PaperBubbles filled(int tools, int[] wall, int seed) {
        PaperBubbles x = new PaperBubbles();
        x.wall(wall[0], wall[1]);
        int[] kms = {31, 0, 23, 65, 14, 48};
        for (int i = 0; i < tools; i++) {
            x.tool(kms[i]);
        }
        x.edge(1, 1);
        x.seed(seed);
        for (int cell = 0; cell < wall[0] * wall[1]; cell++) {
            x.set(cell, 0, 99 - cell);
            x.set(cell, 1, cell % 3);
        }
        return x;
    }
}
