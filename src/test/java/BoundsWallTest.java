/** Promises 1 to 5, sentence by sentence, where they name a least, a greatest, an empty or a full thing. */
public final class BoundsWallTest {
    private static final int MIN = Integer.MIN_VALUE;
    private static final int MAX = Integer.MAX_VALUE;

    public static void main(String[] args) {
        Due due = new Due("BoundsWallTest");
        newObject(due);
        newObjectBeside(due);
        sides(due);
        numberedByRows(due);
        cellsAsAtFirst(due);
        whatStays(due);
        setAir(due);
        setPaste(due);
        lastCell(due);
        ofCell(due);
        size(due);
        edge(due);
        due.end();
    }

    private static void newObject(Due due) {
        due.says(1, "All as at first; no TOOLS");
        PaperBubbles x = new PaperBubbles();
        int[] counts = {16, 0, 0, 0, 0, 0, 0, 0, 0, 0, 0, 1};
        for (int what = 0; what < 12; what++) {
            due.is("count(" + what + ")", x.count(what), counts[what]);
        }
        for (int k = 1; k <= 5; k++) {
            due.is("told(" + k + ")", x.told(k), 0);
        }
        for (int cell = 0; cell < 16; cell++) {
            int[] first = {0, 5, 0, 0};
            for (int what = 0; what < 4; what++) {
                due.is("ofCell(" + cell + ", " + what + ")", x.ofCell(cell, what), first[what]);
            }
        }
        for (int way = 0; way < 4; way++) {
            due.is("edge(" + way + ", 0)", x.edge(way, 0), 0);
        }
        due.is("ofTool(0, 0)", x.ofTool(0, 0), Due.BEYOND);
        for (int sheet = 0; sheet < 4; sheet++) {
            due.is("judge(" + sheet + ")", x.judge(sheet), Due.NONE);
        }
        due.is("restore()", x.restore(), Due.NONE);
        due.is("trace(0)", x.trace(0), Due.NONE);
        due.is("biggest(0)", x.biggest(0), Due.NONE);
        due.is("wayOut(0)", x.wayOut(0), Due.NONE);
        due.is("days(1)", x.days(1), Due.STATE);
        due.is("text(0) of no bytes", x.text(0), -10);
        due.is("check() of no numbers", x.check(), 0);
        due.is("law(0, 99, 9, 9)", x.law(0, 99, 9, 9), 49);
        due.is("law(1, 99, 4, 4)", x.law(1, 99, 4, 4), 99);
        due.is("tool(0)", x.tool(0), 0);
        due.is("feed(.., 1)", x.feed('a', 1), 1);
        due.is("tell(0)", x.tell(0), 1);
        due.is("image()", x.image(), 1);
        due.is("seed(0)", x.seed(0), 1);
    }

    private static void newObjectBeside(Due due) {
        due.says(1, "All as at first, whatever other objects were used for");
        PaperBubbles other = new PaperBubbles();
        other.wall(2, 2);
        other.tool(11);
        other.edge(0, 1);
        other.sheet(0, 8, 4);
        Due.text(other, 0, "3");
        Due.text(other, 1, "4");
        other.seed(9);
        other.voice(0, 0, 1);
        other.wall(9, 9);
        other.tell(4);
        Due.feed(other, "aa");
        other.set(0, 0, 9);
        other.image();
        newObject(due);
        due.is("the other one's CELLS", other.count(0), 4);
        due.is("the other one's AIR", other.ofCell(0, 0), 9);
        due.is("the other one's told(1)", other.told(1), 1);
        due.is("the other one's law", other.law(0, 99, 9, 9), 3);
        due.is("the other one's image()", other.image(), 2);
    }

    private static void sides(Due due) {
        due.says(2, "ROWS (1 to 5) and COLUMNS (1 to 5); how many there are. BEYOND");
        PaperBubbles x = new PaperBubbles();
        int[] sides = {MIN, -1, 0, 1, 2, 3, 4, 5, 6, 7, MAX, 65537};
        int cells = 16;
        int refused = 0;
        for (int rows : sides) {
            for (int columns : sides) {
                boolean fine = rows >= 1 && rows <= 5 && columns >= 1 && columns <= 5;
                cells = fine ? rows * columns : cells;
                refused += fine ? 0 : 1;
                due.is("wall(" + rows + ", " + columns + ")", x.wall(rows, columns), fine ? cells : Due.BEYOND);
                due.is("CELLS then", x.count(0), cells);
            }
        }
        due.is("told(1)", x.told(1), refused);
    }

    private static void numberedByRows(Due due) {
        due.says(2, "CELLS, numbered by rows, from 0 on");
        PaperBubbles x = new PaperBubbles();
        Due.text(x, 1, "r*10+c");
        for (int rows = 1; rows <= 5; rows++) {
            for (int columns = 1; columns <= 5; columns++) {
                x.wall(rows, columns);
                for (int cell = 0; cell < rows * columns; cell++) {
                    due.is(rows + " by " + columns + ", row and column of " + cell, x.ofCell(cell, 2),
                        cell / columns * 10 + cell % columns);
                }
            }
        }
    }

    private static PaperBubbles fullWall() {
        PaperBubbles x = new PaperBubbles();
        x.wall(5, 5);
        for (int cell = 0; cell < 25; cell++) {
            x.set(cell, 0, 99);
            x.set(cell, 1, 9);
        }
        return x;
    }

    private static void asAtFirst(Due due, PaperBubbles x, String when) {
        int cells = x.count(0);
        for (int cell = 0; cell < cells; cell++) {
            due.is(when + ": AIR of " + cell, x.ofCell(cell, 0), 0);
            due.is(when + ": PASTE of " + cell, x.ofCell(cell, 1), 5);
        }
        due.is(when + ": AIR of all", x.count(2), 0);
    }

    private static void cellsAsAtFirst(Due due) {
        due.says(2, "all CELLS are as at first");
        PaperBubbles x = fullWall();
        due.is("wall(5, 5) again", x.wall(5, 5), 25);
        asAtFirst(due, x, "as large as ahead");
        x = fullWall();
        due.is("wall(1, 1)", x.wall(1, 1), 1);
        asAtFirst(due, x, "less");
        due.is("wall(5, 5)", x.wall(5, 5), 25);
        asAtFirst(due, x, "more");
        x = fullWall();
        due.is("a wall refused", x.wall(5, 6), Due.BEYOND);
        due.is("AIR stays", x.count(2), 25 * 99);
        due.is("PASTE stays", x.ofCell(24, 1), 9);
        due.is("wall(5, 1)", x.wall(5, 1), 5);
        asAtFirst(due, x, "one column");
    }

    private static void whatStays(Due due) {
        due.says(2, "EDGES, HOLES, OUT, NIGHT stay");
        PaperBubbles x = new PaperBubbles();
        for (int way = 0; way < 4; way++) {
            x.edge(way, 1);
        }
        x.tool(52);
        x.set(3, 0, 77);
        x.stroke(0, 3, 0);
        x.nights(7);
        Due.text(x, 0, "a/3");
        Due.text(x, 1, "a/4+1");
        Due.feed(x, "p");
        x.seed(6);
        x.tell(0);
        x.voice(0, 2, 1);
        x.sheet(1, 8, 1);
        x.set(0, 0, 5);
        x.image();
        x.wall(1, 1);
        int[] counts = {1, 1, 0, 1, 77, 7, 0, 15, 1, 1, 1, 6};
        for (int what = 0; what < 12; what++) {
            due.is("count(" + what + ")", x.count(what), counts[what]);
        }
        due.is("TEXT 0 stays", x.law(0, 99, 0, 0), 33);
        due.is("TEXT 1 stays", x.shown(), 1);
        due.is("the TOOL's KIND stays", x.ofTool(0, 0), 5);
        due.is("the TOOL's m stays", x.ofTool(0, 1), 2);
        due.is("the SHEET stays", x.judge(1), -1);
        due.is("the number waits", x.check(), 0);
        due.is("the IMAGE stays", x.restore(), 7);
        due.is("the IMAGE's CELLS", x.count(0), 16);
        due.is("the IMAGE's AIR", x.ofCell(0, 0), 5);
    }

    private static void setAir(Due due) {
        due.says(3, "AIR (0 to 99) of a CELL becomes v: what it was. BEYOND");
        PaperBubbles x = new PaperBubbles();
        int was = 0;
        for (int v = -2; v <= 102; v++) {
            boolean fine = v >= 0 && v <= 99;
            due.is("set(7, 0, " + v + ")", x.set(7, 0, v), fine ? was : Due.BEYOND);
            was = fine ? v : was;
            due.is("AIR", x.ofCell(7, 0), was);
        }
        due.is("set(7, 0, MIN)", x.set(7, 0, MIN), Due.BEYOND);
        due.is("set(7, 0, MAX)", x.set(7, 0, MAX), Due.BEYOND);
        due.is("set(7, 0, 256)", x.set(7, 0, 256), Due.BEYOND);
        due.is("AIR", x.ofCell(7, 0), 99);
        due.is("PASTE stays", x.ofCell(7, 1), 5);
        due.is("the others stay", x.count(2), 99);
        due.is("told(1)", x.told(1), 8);
    }

    private static void setPaste(Due due) {
        due.says(3, "PASTE (0 to 9) of a CELL becomes v: what it was. BEYOND");
        PaperBubbles x = new PaperBubbles();
        int was = 5;
        for (int v = -2; v <= 12; v++) {
            boolean fine = v >= 0 && v <= 9;
            due.is("set(8, 1, " + v + ")", x.set(8, 1, v), fine ? was : Due.BEYOND);
            was = fine ? v : was;
            due.is("PASTE", x.ofCell(8, 1), was);
        }
        due.is("set(8, 1, 99)", x.set(8, 1, 99), Due.BEYOND);
        due.is("set(8, 1, MIN)", x.set(8, 1, MIN), Due.BEYOND);
        due.is("set(8, 1, MAX)", x.set(8, 1, MAX), Due.BEYOND);
        due.is("set(8, 2, 5)", x.set(8, 2, 5), Due.BEYOND);
        due.is("set(8, -1, 5)", x.set(8, -1, 5), Due.BEYOND);
        due.is("set(8, MAX, 5)", x.set(8, MAX, 5), Due.BEYOND);
        due.is("PASTE", x.ofCell(8, 1), 9);
        due.is("AIR stays", x.count(2), 0);
        due.is("PASTE of the next stays", x.ofCell(9, 1), 5);
        due.is("told(1)", x.told(1), 5 + 6);
    }

    private static void lastCell(Due due) {
        due.says(3, "of a CELL. BEYOND: no such CELL");
        PaperBubbles x = new PaperBubbles();
        for (int rows = 5; rows >= 1; rows--) {
            for (int columns = 5; columns >= 1; columns--) {
                x.wall(rows, columns);
                int cells = rows * columns;
                String wall = rows + " by " + columns;
                due.is(wall + ": set of the last", x.set(cells - 1, 0, 3), 0);
                due.is(wall + ": set behind the last", x.set(cells, 0, 3), Due.BEYOND);
                due.is(wall + ": ofCell of the last", x.ofCell(cells - 1, 0), 3);
                due.is(wall + ": ofCell behind the last", x.ofCell(cells, 0), Due.BEYOND);
                due.is(wall + ": PASTE behind the last", x.set(cells, 1, 3), Due.BEYOND);
                due.is(wall + ": AIR of all", x.count(2), 3);
            }
        }
        due.is("set(-1, 0, 3)", x.set(-1, 0, 3), Due.BEYOND);
        due.is("set(MIN, 0, 3)", x.set(MIN, 0, 3), Due.BEYOND);
        due.is("set(MAX, 1, 3)", x.set(MAX, 1, 3), Due.BEYOND);
        due.is("set(0, 0, 4)", x.set(0, 0, 4), 3);
        due.is("told(1)", x.told(1), 25 * 3 + 3);
    }

    private static void ofCell(Due due) {
        due.says(4, "0 AIR, 1 PASTE, 2 what it counts in SHOWN, 3 SIZE of its BUBBLE. BEYOND");
        PaperBubbles x = new PaperBubbles();
        x.wall(5, 5);
        x.set(24, 0, 99);
        x.set(23, 0, 1);
        x.set(24, 1, 0);
        Due.text(x, 1, "a-(r+c)");
        int[] last = {99, 0, 91, 100};
        for (int what = -1; what <= 4; what++) {
            boolean fine = what >= 0 && what < 4;
            due.is("ofCell(24, " + what + ")", x.ofCell(24, what), fine ? last[what] : Due.BEYOND);
            due.is("ofCell(25, " + what + ")", x.ofCell(25, what), Due.BEYOND);
            due.is("ofCell(-1, " + what + ")", x.ofCell(-1, what), Due.BEYOND);
        }
        due.is("ofCell(0, MIN)", x.ofCell(0, MIN), Due.BEYOND);
        due.is("ofCell(0, MAX)", x.ofCell(0, MAX), Due.BEYOND);
        due.is("ofCell(MIN, 0)", x.ofCell(MIN, 0), Due.BEYOND);
        due.is("ofCell(MAX, 0)", x.ofCell(MAX, 0), Due.BEYOND);
        due.is("held at 0", x.ofCell(23, 2), 0);
        Due.text(x, 1, "a+1");
        due.is("held at 99", x.ofCell(24, 2), 99);
        due.is("not held", x.ofCell(23, 2), 2);
        due.is("told(1)", x.told(1), 18);
    }

    private static void size(Due due) {
        due.says(4, "3 SIZE of its BUBBLE (0: it has no AIR)");
        PaperBubbles x = new PaperBubbles();
        x.wall(1, 1);
        due.is("no AIR", x.ofCell(0, 3), 0);
        x.set(0, 0, 1);
        due.is("AIR 1", x.ofCell(0, 3), 1);
        x.wall(5, 5);
        for (int cell = 0; cell < 25; cell++) {
            x.set(cell, 0, 99);
        }
        for (int cell = 0; cell < 25; cell++) {
            due.is("a full wall: SIZE at " + cell, x.ofCell(cell, 3), 2475);
        }
        x.set(12, 0, 0);
        due.is("no AIR amid a BUBBLE", x.ofCell(12, 3), 0);
        due.is("the BUBBLE about it", x.ofCell(11, 3), 2376);
        // a cell at each corner's sides alone
        x.set(1, 0, 0);
        x.set(5, 0, 0);
        due.is("a corner alone", x.ofCell(0, 3), 99);
        due.is("asked again", x.ofCell(0, 3), 99);
        due.is("the others", x.ofCell(24, 3), 2376 - 3 * 99);
        int[] around = {7, 13, 17, 11};
        x.set(12, 0, 40);
        for (int a : around) {
            x.set(a, 0, 0);
        }
        due.is("AIR at its corners alone", x.ofCell(12, 3), 40);
        for (int a : around) {
            x.set(a, 0, 2);
            due.is("with " + a + " beside it", x.ofCell(12, 3) > 42 ? 1 : 0, 1);
            x.set(a, 0, 0);
        }
    }

    private static void edge(Due due) {
        due.says(5, "THE EDGE of a WAY (0 to 3) becomes v (OPEN 1, or 0): what it was. BEYOND");
        PaperBubbles x = new PaperBubbles();
        int[] wrong = {MIN, -1, 4, MAX};
        for (int way : wrong) {
            due.is("edge(" + way + ", 1)", x.edge(way, 1), Due.BEYOND);
        }
        int[] wrongV = {MIN, -1, 2, 3, MAX};
        for (int way = 0; way < 4; way++) {
            for (int v : wrongV) {
                due.is("edge(" + way + ", " + v + ")", x.edge(way, v), Due.BEYOND);
            }
        }
        due.is("no EDGE is OPEN", x.count(7), 0);
        for (int way = 0; way < 4; way++) {
            due.is("opens", x.edge(way, 1), 0);
            due.is("it alone", x.count(7), 1 << way);
            due.is("is OPEN", x.edge(way, 1), 1);
            due.is("it alone", x.count(7), 1 << way);
            due.is("a wrong v", x.edge(way, 2), Due.BEYOND);
            due.is("stays OPEN", x.count(7), 1 << way);
            due.is("closes", x.edge(way, 0), 1);
            due.is("is not OPEN", x.edge(way, 0), 0);
            due.is("none", x.count(7), 0);
        }
        for (int way = 0; way < 4; way++) {
            x.edge(way, 1);
        }
        due.is("all four", x.count(7), 15);
        due.is("told(1)", x.told(1), 4 + 20 + 4);
    }
}
