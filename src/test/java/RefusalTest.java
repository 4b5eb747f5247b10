import java.util.ArrayList;
import java.util.Arrays;
import java.util.List;

/**
 * Terms, ERRORS: each act tells them in the order in which they are asked, and one that answers an ERROR changes
 * nothing but what told() tells. Each act that is refused here is refused on one of two objects that were made alike;
 * all that can be seen of both is alike behind it, but told(k).
 */
public final class RefusalTest {
    private static final int MIN = Integer.MIN_VALUE;
    private static final int MAX = Integer.MAX_VALUE;
    private static final int CELLS = 12;
    private static final int NIGHT = 990;
    private static final int[] AIRS = {40, 0, 7, 99, 0, 12, 0, 3, 5, 0, 0, 98};
    private static final int[] PASTES = {9, 3, 1, 2, 0, 4, 5, 6, 7, 8, 9, 2};

    private interface Act {
        int on(PaperBubbles x, int[] a);
    }

    /**
     * An act on the full object: v are arguments that are fine, bounds each one's least and greatest that is fine with
     * the others of v, beyond those with which it is BEYOND first (between them other ERRORS may be due).
     */
    private record Bounded(int promise, Act act, int[] v, int[][] bounds, int[][] beyond) {
        Bounded(int promise, Act act, int[] v, int[]... bounds) {
            this(promise, act, v, bounds, aroundThem(bounds));
        }

        private static int[][] aroundThem(int[][] bounds) {
            int[][] around = new int[bounds.length][];
            for (int i = 0; i < bounds.length; i++) {
                around[i] = new int[] {bounds[i][0] - 1, bounds[i][1] + 1};
            }
            return around;
        }
    }

    private static final Bounded[] BOUNDED = {
        new Bounded(2, (x, a) -> x.wall(a[0], a[1]), at(3, 3), at(1, 5), at(1, 5)),
        new Bounded(3, (x, a) -> x.set(a[0], 0, a[1]), at(4, 8), at(0, 11), at(0, 99)),
        new Bounded(3, (x, a) -> x.set(a[0], 1, a[1]), at(4, 8), at(0, 11), at(0, 9)),
        new Bounded(3, (x, a) -> x.set(4, a[0], 8), at(0), at(0, 1)),
        new Bounded(4, (x, a) -> x.ofCell(a[0], a[1]), at(4, 2), at(0, 11), at(0, 3)),
        new Bounded(5, (x, a) -> x.edge(a[0], a[1]), at(3, 1), at(0, 3), at(0, 1)),
        new Bounded(7, (x, a) -> x.ofTool(a[0], a[1]), at(2, 3), at(0, 5), at(0, 6)),
        new Bounded(8, (x, a) -> x.become(a[0], a[1]), at(2, 55), at(0, 5), at(0, 69)),
        new Bounded(9, (x, a) -> x.as(a[0], a[1]), at(4, 0), two(at(0, 5), at(0, 1)), two(at(-1, 6), at(-1, 7))),
        new Bounded(10, (x, a) -> x.feed(97, a[0]), at(1), one(at(1, 3)), one(at(0, 9))),
        new Bounded(11, (x, a) -> x.text(a[0]), at(1), at(0, 1)),
        new Bounded(12, (x, a) -> x.law(a[0], 9, 9, 9), at(1), at(0, 1)),
        new Bounded(13, (x, a) -> x.stroke(a[0], a[1], a[2]), at(2, 4, 1), at(0, 5), at(0, 11), at(0, 3)),
        new Bounded(14, (x, a) -> x.nights(a[0]), at(1), one(at(1, 9)), one(at(0, 31))),
        new Bounded(15, (x, a) -> x.days(a[0]), at(1), one(at(1, 9)), one(at(0, 31))),
        new Bounded(18, (x, a) -> x.biggest(a[0]), at(1), at(0, 1)),
        new Bounded(19, (x, a) -> x.wayOut(a[0]), at(1), at(0, 11)),
        new Bounded(20, (x, a) -> x.best(a[0], a[1]), at(2, 1), at(0, 5), at(0, 1)),
        new Bounded(21, (x, a) -> x.bestTwo(a[0], a[1]), at(2, 1), at(0, 5), at(0, 1)),
        new Bounded(22, (x, a) -> x.goneBy(a[0]), at(4), at(0, 11)),
        new Bounded(24, (x, a) -> x.needs(a[0], a[1]), at(4, 9), at(0, 11), at(0, 30)),
        new Bounded(25, (x, a) -> x.lamp(a[0]), at(1), at(0, 3)),
        new Bounded(26, (x, a) -> x.came(a[0], a[1], a[2], a[3]), at(2, 4, 1, 0), at(0, 5), at(0, 11), at(0, 3),
            at(0, 3)),
        new Bounded(27, (x, a) -> x.odds(a[0], a[1], a[2], a[3]), at(2, 4, 400, 1), at(0, 5), at(0, 11), at(0, 9999),
            at(0, 1)),
        new Bounded(29, (x, a) -> x.voice(a[0], a[1], 5), at(2, 1), at(0, 5), at(0, 3)),
        new Bounded(31, (x, a) -> x.sheet(a[0], 8, a[1]), at(1, 4), two(at(0, 3), at(0, 40)),
            two(at(-1, 4), at(41, 41))),
        new Bounded(31, (x, a) -> x.sheet(a[0], 0, 4), at(1), at(0, 3)),
        new Bounded(32, (x, a) -> x.put(a[0], a[1], 5), at(0, 1), two(at(0, 2), at(0, 9)), two(at(-1, 4), at(-1, 10))),
        new Bounded(33, (x, a) -> x.move(a[0], 1, a[1], 2, 3), at(0, 0), two(at(0, 0), at(0, 0)),
            two(at(-1, 4), at(-1, 4))),
        new Bounded(33, (x, a) -> x.move(0, a[0], 0, a[1], a[2]), at(1, 2, 3), at(0, 7), at(0, 7), at(0, 8)),
        new Bounded(34, (x, a) -> x.airs(a[0]), at(0), one(at(0, 2)), one(at(-1, 4))),
        new Bounded(35, (x, a) -> x.judge(a[0]), at(0), one(at(0, 2)), one(at(-1, 4))),
        new Bounded(40, (x, a) -> x.count(a[0]), at(3), at(0, 11)),
        new Bounded(41, (x, a) -> x.told(a[0]), at(3), at(1, 5))
    };

    private static int[] at(int... v) {
        return v;
    }

    private static int[][] one(int[] first) {
        return new int[][] {first};
    }

    private static int[][] two(int[] first, int[] second) {
        return new int[][] {first, second};
    }

    public static void main(String[] args) {
        Due due = new Due("RefusalTest");
        bounds(due);
        wrongArguments(due);
        orders(due);
        ordersOfHollow(due);
        ordersOfBare(due);
        asksOnly(due);
        fullThings(due);
        due.end();
    }

    // ---- two objects made alike

    /** Which of the three objects that an act is refused on. */
    private enum Made { FULL, HOLLOW, BARE }

    private static PaperBubbles make(Made made) {
        return made == Made.BARE ? bare() : full(made == Made.HOLLOW);
    }

    private static PaperBubbles full() {
        return full(false);
    }

    /**
     * Six TOOLS, an IMAGE, NIGHT 990, 47 bytes of a TEXT, 20 numbers that wait (as they will be), SHEETS 0, 1, 2 (2
     * as AIR is); a hollow one has all that but an IMAGE, AIR, and EDGES that are OPEN.
     */
    private static PaperBubbles full(boolean hollow) {
        PaperBubbles x = new PaperBubbles();
        x.wall(2, 2);
        Due.airs(x, 7, 0, 3);
        x.edge(0, 1);
        x.tool(11);
        x.tell(5);
        Due.text(x, 1, "a/2");
        for (int i = 0; i < 2 && !hollow; i++) {
            x.image();
        }
        for (int i = 0; i < 33; i++) {
            x.nights(30);
        }
        x.wall(3, 4);
        x.edge(0, 0);
        x.edge(1, hollow ? 0 : 1);
        x.edge(2, hollow ? 0 : 1);
        int[] kms = {13, 25, 31, 47, 62};
        for (int km : kms) {
            x.tool(km);
        }
        x.set(5, 0, 50);
        x.set(5, 1, 1);
        x.stroke(2, 5, 0);
        Due.airs(x, hollow ? new int[CELLS] : AIRS);
        Due.pastes(x, PASTES);
        Due.text(x, 0, "a-p");
        Due.text(x, 1, "a+r-c");
        x.voice(5, 3, 1);
        x.check();
        for (int i = 1; i <= 20; i++) {
            x.tell(hollow ? 0 : behind(i));
        }
        x.sheet(0, 8, 10);
        x.sheet(1, 16, 5);
        x.sheet(2, 32, CELLS);
        for (int i = 0; i < CELLS; i++) {
            x.put(0, i % 10, 3 * i);
            x.put(1, i % 5, 90 - i);
            x.put(2, i, AIRS[i]);
        }
        x.seed(31);
        Due.feed(x, "a+1+1+1+1+1+1+1+1+1+1+1+1+1+1+1+1+1+1+1+1+1+1+1");
        return x;
    }

    /** AIR of all CELLS of full() together, behind so many NIGHTS. */
    private static int behind(int nights) {
        int all = 0;
        for (int cell = 0; cell < CELLS; cell++) {
            int left = AIRS[cell];
            for (int night = 0; night < nights; night++) {
                left -= Math.max(0, PASTES[cell] - night);
            }
            all += Math.max(0, left);
        }
        return all;
    }

    /** No TOOLS, no IMAGE, no SHEETS, no EDGE that is OPEN, no AIR. */
    private static PaperBubbles bare() {
        PaperBubbles x = new PaperBubbles();
        x.wall(2, 3);
        x.seed(7);
        return x;
    }

    /** All that can be seen, told(1) to told(5) first; looking changes the object, but two alike ones alike. */
    private static int[] look(PaperBubbles x) {
        List<Integer> seen = new ArrayList<>();
        for (int k = 1; k <= 5; k++) {
            seen.add(x.told(k));
        }
        lookAtWall(x, seen);
        for (int i = 0; i <= x.count(10); i++) {
            seen.add(x.trace(i));
        }
        // what is kept, and what telling it uses up
        seen.add(x.check());
        seen.add(x.text(0));
        seen.add(x.law(0, 50, 3, 2));
        int[] bits = {8, 16, 32};
        for (int sheet = 0; sheet < 4; sheet++) {
            seen.add(x.wall(5, 5));
            seen.add(x.judge(sheet));
            seen.add(x.airs(sheet));
            for (int i = 0; i < CELLS; i++) {
                seen.add(x.ofCell(i, 0));
            }
            x.sheet(3, bits[Math.min(sheet, 2)], 0);
            seen.add(x.move(sheet, 0, 3, 0, 0));
        }
        seen.add(x.restore());
        lookAtWall(x, seen);
        seen.add(x.check());
        seen.add(x.text(1));
        seen.add(x.image());
        int[] all = new int[seen.size()];
        for (int i = 0; i < all.length; i++) {
            all[i] = seen.get(i);
        }
        return all;
    }

    private static void lookAtWall(PaperBubbles x, List<Integer> seen) {
        for (int what = 0; what < 12; what++) {
            seen.add(x.count(what));
        }
        int cells = x.count(0);
        for (int cell = 0; cell < cells; cell++) {
            for (int what = 0; what < 4; what++) {
                seen.add(x.ofCell(cell, what));
            }
        }
        int tools = x.count(1);
        for (int tool = 0; tool < tools; tool++) {
            seen.add(x.ofTool(tool, 0));
            seen.add(x.ofTool(tool, 1));
        }
        for (int use = 0; use < 2; use++) {
            seen.add(x.law(use, 77, 5, 4));
            seen.add(x.law(use, 9, 1, 2));
        }
    }

    private static void refused(Due due, String call, Made made, Act act, int[] a, int error) {
        PaperBubbles x = make(made);
        due.is(call, act.on(x, a), error);
        int[] want = look(make(made));
        want[-1000000001 - error]++;
        due.is(call + " changes what is seen at", Arrays.mismatch(look(x), want), -1);
    }

    // ---- each argument's least and greatest, and what is beyond them

    private static void bounds(Due due) {
        for (Bounded b : BOUNDED) {
            due.says(b.promise, "no BEYOND within the bounds");
            for (int i = 0; i < b.v.length; i++) {
                for (int v : b.bounds[i]) {
                    int[] a = b.v.clone();
                    a[i] = v;
                    due.is(Arrays.toString(a) + " is refused", b.act.on(full(), a) == Due.BEYOND ? 1 : 0, 0);
                }
            }
        }
    }

    private static void wrongArguments(Due due) {
        for (Bounded b : BOUNDED) {
            due.says(b.promise, "BEYOND; changes nothing but what told() tells");
            int[] all = new int[b.v.length];
            for (int i = 0; i < b.v.length; i++) {
                int least = b.beyond[i][0];
                int most = b.beyond[i][1];
                // below 0 a SHEET's n is STATE, not BEYOND
                int[] wrong = least > 0 ? at(most, MAX) : at(least, most, MIN, MAX);
                for (int v : wrong) {
                    int[] a = b.v.clone();
                    a[i] = v;
                    refused(due, Arrays.toString(a), Made.FULL, b.act, a, Due.BEYOND);
                }
                all[i] = i % 2 == 0 ? MAX : -1;
            }
            refused(due, Arrays.toString(all), Made.FULL, b.act, all, Due.BEYOND);
        }
    }

    // ---- several reasons at once

    private static void orders(Due due) {
        due.says(0, "each act tells its ERRORS in the order in which they are asked");
        Object[][] rows = {
            {"tool", (Act) (x, a) -> x.tool(a[0]), new int[][] {{70, 1}, {-1, 1}, {0, 4}, {69, 4}, {MIN, 1}, {MAX, 1}}},
            {"as", (Act) (x, a) -> x.as(a[0], a[1]), new int[][] {{0, 7, 1}, {0, -1, 1}, {6, 6, 1}, {-1, 6, 1},
                {0, 2, 5}, {0, 3, 5}, {0, 4, 5}, {0, 5, 5}, {0, 6, 5}, {1, 4, 5}, {2, 5, 5}, {3, 6, 5}, {4, 2, 5},
                {5, 1, 5}}},
            {"feed", (Act) (x, a) -> x.feed(a[0], a[1]), new int[][] {{97, 0, 1}, {97, 9, 1}, {97, -1, 1}, {97, MIN, 1},
                {97, MAX, 1}, {97, 4, 4}, {97, 8, 4}}},
            {"nights", (Act) (x, a) -> x.nights(a[0]), new int[][] {{0, 1}, {31, 1}, {-1, 1}, {10, 3}, {30, 3}}},
            {"days", (Act) (x, a) -> x.days(a[0]), new int[][] {{0, 1}, {31, 1}, {-1, 1}, {10, 3}, {30, 3}}},
            {"goneBy", (Act) (x, a) -> x.goneBy(a[0]), new int[][] {{3, 2}, {2, 2}, {12, 1}}},
            {"needs", (Act) (x, a) -> x.needs(a[0], a[1]), new int[][] {{3, 31, 1}, {3, -1, 1}, {3, 30, 2}, {0, 0, 2},
                {12, 30, 1}}},
            {"came", (Act) (x, a) -> x.came(a[0], a[1], a[2], a[3]), new int[][] {{6, 0, 0, 3, 1}, {0, 12, 0, 3, 1},
                {0, 0, 4, 3, 1}, {0, 0, 0, 4, 1}, {6, 0, 0, 1, 1}, {0, 12, 0, 2, 1}, {0, 0, 4, 1, 1}, {0, 0, 0, 3, 2},
                {0, 0, 0, 0, 2}, {0, 0, 0, 1, 2}, {0, 3, 1, 2, 2}}},
            {"trace", (Act) (x, a) -> x.trace(a[0]), new int[][] {{-1, 2}, {9, 2}, {39, 2}, {40, 2}, {MIN, 2},
                {MAX, 2}}},
            {"sheet", (Act) (x, a) -> x.sheet(a[0], a[1], a[2]), new int[][] {{4, 8, -1, 1}, {-1, 8, -1, 1},
                {0, 7, -1, 1}, {0, 9, 41, 1}, {0, 1, 0, 1}, {0, -8, 4, 1}, {0, 64, 4, 1}, {0, 8, -1, 3},
                {1, 16, MIN, 3}, {2, 32, -1, 3}, {3, 8, -1, 3}, {0, 8, 41, 1}, {1, 16, 41, 1}, {2, 32, MAX, 1},
                {4, 0, -1, 1}}},
            {"put", (Act) (x, a) -> x.put(a[0], a[1], a[2]), new int[][] {{4, -1, 1, 1}, {-1, 0, 1, 1}, {3, -1, 1, 2},
                {3, 0, 1, 2}, {3, 40, 1, 2}, {0, 10, 1, 1}, {0, -1, 1, 1}, {1, 5, 1, 1}, {2, 12, 1, 1}, {2, 40, 1, 1}}},
            {"move", (Act) (x, a) -> x.move(a[0], a[1], a[2], a[3], a[4]), new int[][] {{4, 0, 3, 0, 0, 1},
                {3, 0, 4, 0, 0, 1}, {-1, -1, 3, -1, -1, 1}, {3, 0, 0, 0, 0, 2}, {0, 0, 3, 0, 0, 2}, {3, 0, 3, 0, 0, 2},
                {3, -1, 0, -1, -1, 2}, {0, -1, 1, -1, -1, 5}, {0, 0, 1, 0, 0, 5}, {1, 0, 2, 0, 99, 5},
                {0, 0, 0, 1, 10, 1}, {0, 1, 0, 0, 10, 1}, {1, 5, 1, 0, 1, 1}, {1, 0, 1, 5, 1, 1}, {1, 6, 1, 0, 0, 1},
                {1, 0, 1, 6, 0, 1}, {2, 0, 2, 0, 13, 1}}},
            {"airs", (Act) (x, a) -> x.airs(a[0]), new int[][] {{3, 2}, {4, 1}}},
            {"judge", (Act) (x, a) -> x.judge(a[0]), new int[][] {{3, 2}, {4, 1}}},
            {"tell", (Act) (x, a) -> x.tell(a[0]), new int[][] {{0, 4}, {MIN, 4}, {MAX, 4}}},
            {"told", (Act) (x, a) -> x.told(a[0]), new int[][] {{0, 1}, {6, 1}, {-1, 1}}}
        };
        for (Object[] row : rows) {
            for (int[] a : (int[][]) row[2]) {
                refusedRow(due, row, Made.FULL, a);
            }
        }
    }

    private static void refusedRow(Due due, Object[] row, Made made, int[] a) {
        String call = made + ": " + row[0] + Arrays.toString(Arrays.copyOf(a, a.length - 1));
        refused(due, call, made, (Act) row[1], a, -1000000000 - a[a.length - 1]);
    }

    private static void ordersOfHollow(Due due) {
        due.says(0, "each act tells its ERRORS in the order in which they are asked");
        Object[][] rows = {
            {"biggest", (Act) (x, a) -> x.biggest(a[0]), new int[][] {{0, 2}, {1, 2}, {2, 1}, {-1, 1}}},
            {"wayOut", (Act) (x, a) -> x.wayOut(a[0]), new int[][] {{0, 2}, {11, 2}, {12, 1}, {-1, 1}}},
            {"restore", (Act) (x, a) -> x.restore(), new int[][] {{2}}}
        };
        for (Object[] row : rows) {
            for (int[] a : (int[][]) row[2]) {
                refusedRow(due, row, Made.HOLLOW, a);
            }
        }
    }

    private static void ordersOfBare(Due due) {
        due.says(0, "each act tells its ERRORS in the order in which they are asked");
        Object[][] rows = {
            {"biggest", (Act) (x, a) -> x.biggest(a[0]), new int[][] {{0, 2}, {1, 2}, {2, 1}, {-1, 1}}},
            {"wayOut", (Act) (x, a) -> x.wayOut(a[0]), new int[][] {{0, 2}, {5, 2}, {6, 1}, {-1, 1}}},
            {"days", (Act) (x, a) -> x.days(a[0]), new int[][] {{1, 3}, {30, 3}, {0, 1}, {31, 1}}},
            {"restore", (Act) (x, a) -> x.restore(), new int[][] {{2}}},
            {"trace", (Act) (x, a) -> x.trace(a[0]), new int[][] {{0, 2}, {-1, 2}}},
            {"stroke", (Act) (x, a) -> x.stroke(a[0], 0, 0), new int[][] {{0, 1}, {-1, 1}}},
            {"best", (Act) (x, a) -> x.best(a[0], 0), new int[][] {{0, 1}, {-1, 1}}},
            {"bestTwo", (Act) (x, a) -> x.bestTwo(a[0], 0), new int[][] {{0, 1}, {-1, 1}}},
            {"came", (Act) (x, a) -> x.came(a[0], 0, 0, 0), new int[][] {{0, 1}, {-1, 1}}},
            {"odds", (Act) (x, a) -> x.odds(a[0], 0, 0, 0), new int[][] {{0, 1}, {-1, 1}}},
            {"voice", (Act) (x, a) -> x.voice(a[0], 0, 0), new int[][] {{0, 1}, {-1, 1}}},
            {"ofTool", (Act) (x, a) -> x.ofTool(a[0], 0), new int[][] {{0, 1}, {-1, 1}}},
            {"become", (Act) (x, a) -> x.become(a[0], 0), new int[][] {{0, 1}, {-1, 1}}},
            {"as", (Act) (x, a) -> x.as(a[0], 0), new int[][] {{0, 1}, {-1, 1}}},
            {"put", (Act) (x, a) -> x.put(a[0], 0, 0), new int[][] {{0, 2}, {3, 2}, {4, 1}}},
            {"airs", (Act) (x, a) -> x.airs(a[0]), new int[][] {{0, 2}, {3, 2}, {4, 1}}},
            {"judge", (Act) (x, a) -> x.judge(a[0]), new int[][] {{0, 2}, {3, 2}, {4, 1}}},
            {"move", (Act) (x, a) -> x.move(a[0], 0, a[1], 0, 0), new int[][] {{0, 1, 2}, {0, 0, 2}, {0, 4, 1},
                {4, 0, 1}}}
        };
        for (Object[] row : rows) {
            for (int[] a : (int[][]) row[2]) {
                refusedRow(due, row, Made.BARE, a);
            }
        }
    }

    private static void asksOnly(Due due) {
        due.says(0, "(All this is only thought.)");
        Act[] acts = {(x, a) -> x.ofCell(3, 2), (x, a) -> x.ofCell(3, 3), (x, a) -> x.ofTool(5, 3),
            (x, a) -> x.as(4, 1), (x, a) -> x.law(0, 9, 2, 3), (x, a) -> x.law(1, 300, -2, 9), (x, a) -> x.shown(),
            (x, a) -> x.bubbles(), (x, a) -> x.biggest(0), (x, a) -> x.biggest(1), (x, a) -> x.wayOut(4),
            (x, a) -> x.best(2, 0), (x, a) -> x.best(3, 1), (x, a) -> x.best(5, 0), (x, a) -> x.bestTwo(2, 1),
            (x, a) -> x.bestTwo(3, 0), (x, a) -> x.bestTwo(5, 1), (x, a) -> x.goneBy(7), (x, a) -> x.goneBy(1),
            (x, a) -> x.never(), (x, a) -> x.needs(7, 4), (x, a) -> x.needs(0, 30), (x, a) -> x.lamp(0),
            (x, a) -> x.lamp(3), (x, a) -> x.came(2, 1, 2, 2), (x, a) -> x.odds(2, 5, 300, 0),
            (x, a) -> x.odds(3, 3, 9999, 1), (x, a) -> x.odds(5, 0, 0, 1), (x, a) -> x.trace(8), (x, a) -> x.judge(2),
            (x, a) -> x.count(4), (x, a) -> x.count(11), (x, a) -> x.told(2)};
        for (int i = 0; i < acts.length; i++) {
            PaperBubbles x = full();
            due.is("act " + i + " is refused", acts[i].on(x, null) < -1000000000 ? 1 : 0, 0);
            due.is("act " + i + " changes what is seen at", Arrays.mismatch(look(x), look(full())), -1);
        }
    }

    /** What the full object is full of is right up to its bound: a call less is none too many. */
    private static void fullThings(Due due) {
        due.says(0, "the full object of this test");
        PaperBubbles x = full();
        int[] counts = {CELLS, 6, 264, 1, 6, NIGHT, 7, 6, 47, 20, 9, 31};
        for (int what = 0; what < 12; what++) {
            due.is("count(" + what + ")", x.count(what), counts[what]);
        }
        due.is("feed(.., 3)", x.feed(0, 3), 50);
        due.is("check()", x.check(), 0);
        due.is("tell(0)", x.tell(0), 1);
        due.is("nights(9)", x.nights(9) >= 0 ? 1 : 0, 1);
        due.is("nights(1)", x.nights(1), Due.STATE);
        due.is("restore()", x.restore(), 0);
        due.is("image()", x.image(), 3);
    }
}
