/** Promises 31 to 35: sheet, put, move, airs, judge. */
public final class SheetTest {
    public static void main(String[] args) {
        Due due = new Due("SheetTest");
        sheet(due);
        put(due);
        move(due);
        moveWrong(due);
        airs(due);
        judge(due);
        due.end();
    }

    /** Numbers of a SHEET, each read by what judge() says of a wall of one cell; only 0 to 99 can be read. */
    private static int[] read(PaperBubbles x, int sheet, int many) {
        int[] numbers = new int[many];
        x.wall(1, 1);
        for (int i = 0; i < many; i++) {
            x.move(sheet, i, 3, 0, 1);
            numbers[i] = x.airs(3) == 1 ? x.ofCell(0, 0) : -1;
        }
        return numbers;
    }

    private static void sheet(Due due) {
        PaperBubbles x = new PaperBubbles();
        due.is("sheet(4, 8, 1)", x.sheet(4, 8, 1), Due.BEYOND);
        due.is("sheet(-1, 8, 1)", x.sheet(-1, 8, 1), Due.BEYOND);
        due.is("sheet(0, 9, 1)", x.sheet(0, 9, 1), Due.BEYOND);
        due.is("sheet(0, 64, 1)", x.sheet(0, 64, 1), Due.BEYOND);
        due.is("sheet(0, -8, 1)", x.sheet(0, -8, 1), Due.BEYOND);
        due.is("sheet(4, 8, -1)", x.sheet(4, 8, -1), Due.BEYOND);
        due.is("sheet(0, 7, -1)", x.sheet(0, 7, -1), Due.BEYOND);
        due.is("sheet(0, 8, -1)", x.sheet(0, 8, -1), Due.STATE);
        due.is("sheet(0, 8, MIN)", x.sheet(0, 8, Integer.MIN_VALUE), Due.STATE);
        due.is("sheet(0, 8, 41)", x.sheet(0, 8, 41), Due.BEYOND);
        due.is("still missing", x.judge(0), Due.NONE);
        due.is("told(1)", x.told(1), 8);
        due.is("told(3)", x.told(3), 2);
        int[] bits = {8, 16, 32};
        for (int b : bits) {
            due.is("40 numbers", x.sheet(0, b, 40), 1);
            due.is("the last", x.put(0, 39, 1), 1);
            due.is("none behind", x.put(0, 40, 1), Due.BEYOND);
            due.is("all 0 again", x.sheet(0, b, 40), 1);
            due.is("all 0: what is too many", x.judge(0), 16);
        }
        due.is("no numbers", x.sheet(3, 8, 0), 1);
        due.is("no numbers", x.airs(3), 0);
        due.is("no numbers, not missing", x.put(3, 0, 1), Due.BEYOND);
        due.is("missing again", x.sheet(0, 0, -5), 1);
        due.is("missing", x.put(0, 0, 1), Due.NONE);
        due.is("missing again", x.sheet(3, 0, 99), 1);
        due.is("missing", x.airs(3), Due.NONE);
        due.is("a missing one of none", x.sheet(4, 0, 0), Due.BEYOND);
        x.sheet(1, 8, 5);
        x.put(1, 2, 9);
        x.put(1, 4, 9);
        x.sheet(1, 0, 0);
        x.sheet(1, 8, 16);
        due.is("all 0 again", x.judge(1), -1);
        x.put(1, 2, 9);
        due.is("a refused one", x.sheet(1, 8, -1), Due.STATE);
        due.is("changes nothing", x.judge(1), 2);
    }

    private static void put(Due due) {
        PaperBubbles x = new PaperBubbles();
        x.wall(1, 4);
        due.is("put(4, 0, 0)", x.put(4, 0, 0), Due.BEYOND);
        due.is("put(-1, 0, 0)", x.put(-1, 0, 0), Due.BEYOND);
        due.is("missing", x.put(0, 0, 0), Due.NONE);
        due.is("missing, ahead of the number", x.put(0, -1, 0), Due.NONE);
        x.sheet(0, 8, 4);
        x.sheet(1, 16, 4);
        x.sheet(2, 32, 4);
        due.is("put(0, 4, 1)", x.put(0, 4, 1), Due.BEYOND);
        due.is("put(0, -1, 1)", x.put(0, -1, 1), Due.BEYOND);
        Due.airs(x, 7, 7, 7, 7);
        for (int sheet = 0; sheet < 3; sheet++) {
            for (int i = 0; i < 4; i++) {
                due.is("put", x.put(sheet, i, 7), 1);
            }
            due.is("as they were put", x.judge(sheet), -1);
        }
        int[] v = {256 + 7, 65536 + 7, -256 + 7, -65536 + 7, 0x7FFF0007, 0x12345607, 7};
        int[] low = {8, 16, 8, 16, 16, 8, 32};
        for (int k = 0; k < v.length; k++) {
            for (int sheet = 0; sheet < 3; sheet++) {
                x.put(sheet, 3, v[k]);
                due.is(v[k] + " in " + (8 << sheet) + " bits", x.judge(sheet), 8 << sheet <= low[k] ? -1 : 3);
                x.put(sheet, 3, 7);
            }
        }
        due.is("told(1)", x.told(1), 4);
        due.is("told(2)", x.told(2), 2);
    }

    private static PaperBubbles digits() {
        PaperBubbles x = new PaperBubbles();
        x.sheet(0, 8, 6);
        x.sheet(1, 8, 4);
        x.sheet(2, 16, 6);
        x.sheet(3, 8, 1);
        for (int i = 0; i < 6; i++) {
            x.put(0, i, 1 + i);
        }
        return x;
    }

    private static void move(Due due) {
        PaperBubbles x = digits();
        due.is("move", x.move(0, 1, 1, 0, 3), 3);
        due.rows("another", read(x, 1, 4), 2, 3, 4, 0);
        due.rows("stays", read(x, 0, 6), 1, 2, 3, 4, 5, 6);
        due.is("up", x.move(0, 0, 0, 1, 5), 5);
        due.rows("as they all were", read(x, 0, 6), 1, 1, 2, 3, 4, 5);
        x = digits();
        due.is("down", x.move(0, 2, 0, 0, 4), 4);
        due.rows("as they all were", read(x, 0, 6), 3, 4, 5, 6, 5, 6);
        due.is("all", x.move(0, 0, 0, 0, 6), 6);
        due.rows("the same", read(x, 0, 6), 3, 4, 5, 6, 5, 6);
        due.is("none", x.move(0, 0, 1, 0, 0), 0);
        due.is("none, behind the last", x.move(0, 6, 1, 4, 0), 0);
        due.rows("nothing came", read(x, 1, 4), 0, 0, 0, 0);
        due.is("no ERROR", x.told(1) + x.told(2) + x.told(3) + x.told(4) + x.told(5), 0);
        x = new PaperBubbles();
        x.wall(1, 1);
        x.set(0, 0, 9);
        x.sheet(0, 32, 40);
        x.sheet(1, 32, 1);
        x.put(0, 39, 256 + 9);
        due.is("32 bits", x.move(0, 39, 1, 0, 1), 1);
        due.is("all of them", x.judge(1), 0);
        x.put(0, 39, 9);
        x.move(0, 39, 1, 0, 1);
        due.is("all of them", x.judge(1), -1);
    }

    private static void moveWrong(Due due) {
        PaperBubbles x = digits();
        int max = Integer.MAX_VALUE;
        int[][] beyond = {{4, 0, 0, 0, 1}, {-1, 0, 0, 0, 1}, {0, 0, 4, 0, 1}, {0, 0, -1, 0, 1}, {0, -1, 1, 0, 1},
            {0, 0, 1, -1, 1}, {0, 0, 1, 0, -1}, {0, 6, 1, 0, 1}, {0, 0, 1, 4, 1}, {0, 0, 1, 0, 5}, {0, 4, 1, 0, 3},
            {0, 7, 1, 0, 0}, {0, 0, 1, 5, 0}, {0, max, 1, 0, max}, {0, 1, 1, 0, max}, {0, max, 1, 0, 1},
            {0, 0, 1, max, 2}, {0, 0, 0, 1, 6}, {0, max, 0, max, 2}};
        for (int[] row : beyond) {
            due.is("move(" + java.util.Arrays.toString(row) + ")", x.move(row[0], row[1], row[2], row[3], row[4]),
                Due.BEYOND);
        }
        due.is("unlike bits", x.move(0, 0, 2, 0, 1), Due.KIND);
        due.is("unlike bits, ahead of n", x.move(0, 0, 2, 0, -1), Due.KIND);
        x.sheet(1, 0, 0);
        due.is("missing", x.move(0, 0, 1, 0, 1), Due.NONE);
        due.is("missing", x.move(1, 0, 0, 0, 1), Due.NONE);
        due.is("missing, ahead of bits and n", x.move(2, 0, 1, 0, -1), Due.NONE);
        due.is("no such, ahead of missing", x.move(1, 0, 4, 0, 1), Due.BEYOND);
        due.rows("all stays", read(x, 0, 6), 1, 2, 3, 4, 5, 6);
        due.is("told(1)", x.told(1), beyond.length + 1);
        due.is("told(2)", x.told(2), 3);
        due.is("told(5)", x.told(5), 2);
    }

    private static void airs(Due due) {
        PaperBubbles x = new PaperBubbles();
        x.wall(1, 3);
        due.is("airs(4)", x.airs(4), Due.BEYOND);
        due.is("airs(-1)", x.airs(-1), Due.BEYOND);
        due.is("airs(0)", x.airs(0), Due.NONE);
        x.sheet(0, 8, 2);
        x.put(0, 0, 99);
        x.put(0, 1, 1);
        Due.airs(x, 5, 6, 7);
        due.is("fewer than CELLS", x.airs(0), 2);
        due.rows("AIR", Due.all(x, 0), 99, 1, 7);
        x.sheet(0, 8, 5);
        x.put(0, 0, 8);
        x.put(0, 3, 100);
        due.is("more than CELLS", x.airs(0), 3);
        due.rows("AIR", Due.all(x, 0), 8, 0, 0);
        x.put(0, 0, 9);
        x.put(0, 1, 100);
        x.put(0, 2, 50);
        due.is("up to 100", x.airs(0), 1);
        due.rows("AIR", Due.all(x, 0), 9, 0, 0);
        x.put(0, 0, 100);
        due.is("none", x.airs(0), 0);
        due.rows("AIR", Due.all(x, 0), 9, 0, 0);
        x.sheet(1, 32, 3);
        x.put(1, 0, 4);
        x.put(1, 1, -1);
        due.is("up to -1", x.airs(1), 1);
        due.is("AIR", x.ofCell(0, 0), 4);
        due.is("PASTE stays", x.ofCell(0, 1), 5);
        due.is("told(1)", x.told(1), 2);
        due.is("told(2)", x.told(2), 1);
        due.is("no other", x.told(3) + x.told(4) + x.told(5), 0);
    }

    private static void judge(Due due) {
        PaperBubbles x = new PaperBubbles();
        x.wall(1, 3);
        due.is("judge(4)", x.judge(4), Due.BEYOND);
        due.is("judge(-1)", x.judge(-1), Due.BEYOND);
        due.is("judge(0)", x.judge(0), Due.NONE);
        x.sheet(0, 16, 0);
        due.is("all lack", x.judge(0), 0);
        x.sheet(0, 16, 2);
        due.is("the third lacks", x.judge(0), 2);
        x.sheet(0, 16, 3);
        due.is("all are", x.judge(0), -1);
        x.sheet(0, 16, 4);
        due.is("the fourth is too many", x.judge(0), 3);
        x.set(2, 0, 1);
        due.is("the first that isn't so", x.judge(0), 2);
        x.set(0, 0, 1);
        due.is("the first that isn't so", x.judge(0), 0);
        x.wall(5, 5);
        x.sheet(0, 8, 40);
        due.is("25 are", x.judge(0), 25);
        due.is("told(1)", x.told(1), 2);
        due.is("told(2)", x.told(2), 1);
    }
}
