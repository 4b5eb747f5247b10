/** Promises 1 to 5: a new object, wall, set, ofCell, edge. */
public final class WallTest {
    public static void main(String[] args) {
        Due due = new Due("WallTest");
        newObject(due);
        wall(due);
        set(due);
        ofCell(due);
        edge(due);
        due.end();
    }

    private static void newObject(Due due) {
        PaperBubbles x = new PaperBubbles();
        due.is("count(0)", x.count(0), 16);
        for (int what = 1; what <= 10; what++) {
            due.is("count(" + what + ")", x.count(what), 0);
        }
        due.is("count(11)", x.count(11), 1);
        for (int cell = 0; cell < 16; cell++) {
            due.is("AIR", x.ofCell(cell, 0), 0);
            due.is("PASTE", x.ofCell(cell, 1), 5);
        }
        due.is("no 17th cell", x.ofCell(16, 0), Due.BEYOND);
        // 4 by 4: the cell below 3 is 7
        x.edge(1, 1);
        due.is("wayOut(3)", x.wayOut(3), 0);
        due.is("wayOut(7)", x.wayOut(7), 0);
        due.is("wayOut(4)", x.wayOut(4), 3);
        for (int k = 2; k <= 5; k++) {
            due.is("told(" + k + ")", x.told(k), 0);
        }
        due.is("told(1)", x.told(1), 1);
        PaperBubbles y = new PaperBubbles();
        due.is("no tool", y.ofTool(0, 0), Due.BEYOND);
        due.is("no sheet", y.judge(0), Due.NONE);
        due.is("no image", y.restore(), Due.NONE);
        due.is("no trace", y.trace(0), Due.NONE);
        due.is("law 0", y.law(0, 31, 2, 3), 15);
        due.is("law 1", y.law(1, 31, 2, 3), 31);
        due.is("image()", y.image(), 1);
    }

    private static void wall(Due due) {
        PaperBubbles x = new PaperBubbles();
        x.tool(10);
        x.edge(2, 1);
        Due.airs(x, 5, 99, 5, 5);
        x.set(1, 1, 0);
        x.tool(50);
        x.stroke(1, 1, 0);
        x.nights(2);
        due.is("wall(5, 5)", x.wall(5, 5), 25);
        for (int cell = 0; cell < 25; cell++) {
            due.is("AIR", x.ofCell(cell, 0), 0);
            due.is("PASTE", x.ofCell(cell, 1), 5);
        }
        due.is("HOLES stay", x.count(3), 2);
        due.is("OUT stays", x.count(4), 99);
        due.is("NIGHT stays", x.count(5), 2);
        due.is("EDGES stay", x.count(7), 4);
        due.is("TOOLS stay", x.count(1), 2);
        due.is("wall(1, 1)", x.wall(1, 1), 1);
        due.is("wall(1, 5)", x.wall(1, 5), 5);
        due.is("wall(5, 1)", x.wall(5, 1), 5);
        due.is("wall(3, 2)", x.wall(3, 2), 6);
        due.is("rows from the north: wayOut(1)", x.wayOut(1), 2);
        due.is("rows from the north: wayOut(2)", x.wayOut(2), 1);
        x.set(5, 0, 9);
        due.is("wall(0, 1)", x.wall(0, 1), Due.BEYOND);
        due.is("wall(6, 1)", x.wall(6, 1), Due.BEYOND);
        due.is("wall(1, 0)", x.wall(1, 0), Due.BEYOND);
        due.is("wall(1, 6)", x.wall(1, 6), Due.BEYOND);
        due.is("wall(-1, -1)", x.wall(-1, -1), Due.BEYOND);
        due.is("wall(MIN, MAX)", x.wall(Integer.MIN_VALUE, Integer.MAX_VALUE), Due.BEYOND);
        due.is("nothing changed", x.count(0), 6);
        due.is("nothing changed", x.ofCell(5, 0), 9);
        due.is("told(1)", x.told(1), 6);
    }

    private static void set(Due due) {
        PaperBubbles x = new PaperBubbles();
        due.is("set(0, 0, 99)", x.set(0, 0, 99), 0);
        due.is("set(0, 0, 0)", x.set(0, 0, 0), 99);
        due.is("set(0, 0, 1)", x.set(0, 0, 1), 0);
        due.is("set(15, 1, 9)", x.set(15, 1, 9), 5);
        due.is("set(15, 1, 0)", x.set(15, 1, 0), 9);
        due.is("set(15, 1, 7)", x.set(15, 1, 7), 0);
        due.is("set(16, 0, 1)", x.set(16, 0, 1), Due.BEYOND);
        due.is("set(-1, 0, 1)", x.set(-1, 0, 1), Due.BEYOND);
        due.is("set(0, 2, 1)", x.set(0, 2, 1), Due.BEYOND);
        due.is("set(0, -1, 1)", x.set(0, -1, 1), Due.BEYOND);
        due.is("set(0, 0, 100)", x.set(0, 0, 100), Due.BEYOND);
        due.is("set(0, 0, -1)", x.set(0, 0, -1), Due.BEYOND);
        due.is("set(0, 1, 10)", x.set(0, 1, 10), Due.BEYOND);
        due.is("set(0, 1, -1)", x.set(0, 1, -1), Due.BEYOND);
        due.is("AIR", x.ofCell(0, 0), 1);
        due.is("PASTE", x.ofCell(0, 1), 5);
        due.is("PASTE of 15", x.ofCell(15, 1), 7);
        due.is("AIR of 15", x.ofCell(15, 0), 0);
        due.is("told(1)", x.told(1), 8);
    }

    private static void ofCell(Due due) {
        PaperBubbles x = new PaperBubbles();
        x.wall(2, 3);
        Due.airs(x, 4, 0, 9, 3, 0, 90);
        due.is("AIR", x.ofCell(5, 0), 90);
        due.is("PASTE", x.ofCell(5, 1), 5);
        due.is("SEEN without a text", x.ofCell(5, 2), 90);
        due.rows("SIZE", Due.all(x, 3), 7, 0, 99, 7, 0, 99);
        Due.text(x, 1, "a+10*r+c");
        due.rows("SEEN", Due.all(x, 2), 4, 1, 11, 13, 11, 99);
        due.is("ofCell(6, 0)", x.ofCell(6, 0), Due.BEYOND);
        due.is("ofCell(-1, 0)", x.ofCell(-1, 0), Due.BEYOND);
        due.is("ofCell(0, 4)", x.ofCell(0, 4), Due.BEYOND);
        due.is("ofCell(0, -1)", x.ofCell(0, -1), Due.BEYOND);
        due.is("told(1)", x.told(1), 4);
    }

    private static void edge(Due due) {
        PaperBubbles x = new PaperBubbles();
        due.is("edge(0, 0)", x.edge(0, 0), 0);
        due.is("edge(0, 1)", x.edge(0, 1), 0);
        due.is("edge(0, 1)", x.edge(0, 1), 1);
        due.is("edge(3, 1)", x.edge(3, 1), 0);
        due.is("edges", x.count(7), 9);
        due.is("edge(0, 0)", x.edge(0, 0), 1);
        due.is("edges", x.count(7), 8);
        due.is("edge(4, 0)", x.edge(4, 0), Due.BEYOND);
        due.is("edge(-1, 0)", x.edge(-1, 0), Due.BEYOND);
        due.is("edge(0, 2)", x.edge(0, 2), Due.BEYOND);
        due.is("edge(0, -1)", x.edge(0, -1), Due.BEYOND);
        due.is("edges", x.count(7), 8);
        due.is("told(1)", x.told(1), 4);
    }
}
