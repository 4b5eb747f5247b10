/** Promises 13 to 15: stroke, nights, days. */
public final class StrokeTest {
    public static void main(String[] args) {
        Due due = new Due("StrokeTest");
        moves(due);
        lets(due);
        edges(due);
        limits(due);
        wrong(due);
        nights(due);
        lateNights(due);
        days(due);
        dayByDay(due);
        due.end();
    }

    /** A wall of 3 by 3 with AIR 10, 20, .. 90 and one tool. */
    private static PaperBubbles nine(int km) {
        PaperBubbles x = new PaperBubbles();
        x.wall(3, 3);
        Due.airs(x, 10, 20, 30, 40, 50, 60, 70, 80, 90);
        x.tool(km);
        return x;
    }

    private static void moves(Due due) {
        PaperBubbles x = nine(0);
        due.is("north", x.stroke(0, 4, 0), 25);
        due.rows("north", Due.all(x, 0), 10, 45, 30, 40, 25, 60, 70, 80, 90);
        due.is("east", x.stroke(0, 3, 1), 20);
        due.rows("east", Due.all(x, 0), 10, 45, 30, 20, 45, 60, 70, 80, 90);
        due.is("south", x.stroke(0, 1, 2), 23);
        due.rows("south", Due.all(x, 0), 10, 23, 30, 20, 67, 60, 70, 80, 90);
        due.is("west", x.stroke(0, 2, 3), 15);
        due.rows("west", Due.all(x, 0), 10, 38, 15, 20, 67, 60, 70, 80, 90);
        x = nine(10);
        due.is("BRUSH", x.stroke(0, 0, 1), 4);
        due.rows("BRUSH", Due.all(x, 0), 4, 26, 30, 40, 50, 60, 70, 80, 90);
        x.set(0, 0, 0);
        due.is("BRUSH without AIR", x.stroke(0, 0, 1), 0);
        due.is("BRUSH without AIR", x.ofCell(1, 0), 26);
        x = nine(30);
        due.is("ROLLER", x.stroke(0, 0, 1), 0);
        due.rows("ROLLER", Due.all(x, 0), 0, 0, 60, 40, 50, 60, 70, 80, 90);
        x = nine(40);
        due.is("SOFT", x.stroke(0, 4, 2), 37);
        due.rows("SOFT", Due.all(x, 0), 10, 20, 30, 40, 37, 60, 70, 93, 90);
        x = nine(61);
        x.wall(1, 5);
        Due.airs(x, 10, 0, 5, 5, 5);
        due.is("HARD, m 1", x.stroke(0, 0, 1), 1);
        due.rows("HARD, m 1, 3 far", Due.all(x, 0), 1, 1, 1, 17, 5);
        x.become(0, 65);
        Due.airs(x, 10, 0, 50, 5, 5);
        due.is("HARD, m 5", x.stroke(0, 0, 1), 5);
        due.rows("HARD, m 5, 4 far", Due.all(x, 0), 5, 5, 5, 5, 50);
        x.become(0, 30);
        Due.airs(x, 0, 8, 0, 0, 0);
        due.is("ROLLER at a CELL without AIR", x.stroke(0, 0, 1), 0);
        due.rows("goes on from the next", Due.all(x, 0), 0, 0, 8, 0, 0);
        Due.text(x, 0, "a-p-m");
        x.become(0, 2);
        Due.airs(x, 30, 0, 0, 0, 0);
        x.set(0, 1, 7);
        due.is("by a TEXT", x.stroke(0, 0, 1), 9);
        due.is("by a TEXT", x.ofCell(1, 0), 21);
        Due.text(x, 0, "a+1");
        due.is("no more than a", x.stroke(0, 0, 1), 0);
        due.is("no more than a", x.ofCell(1, 0), 30);
    }

    private static void lets(Due due) {
        PaperBubbles x = nine(23);
        due.is("NEEDLE", x.stroke(0, 4, 0), 46);
        due.is("OUT", x.count(4), 4);
        due.is("HOLES", x.count(3), 0);
        x.set(4, 1, 2);
        due.is("NEEDLE", x.stroke(0, 4, 0), 42);
        due.is("HOLES", x.count(3), 1);
        x.set(4, 1, 3);
        x.set(4, 0, 3);
        due.is("no more than a", x.stroke(0, 4, 0), 0);
        due.is("OUT", x.count(4), 11);
        due.is("PASTE 3 holds", x.count(3), 1);
        due.is("the others stay", x.count(2), 400);
        x = nine(59);
        due.is("KNIFE", x.stroke(0, 8, 1), 0);
        due.is("OUT", x.count(4), 90);
        due.is("HOLES", x.count(3), 1);
        x.set(8, 1, 0);
        due.is("KNIFE", x.stroke(0, 8, 1), 0);
        due.is("HOLES", x.count(3), 3);
        x = nine(60);
        x.set(4, 1, 7);
        x.stroke(0, 4, 1);
        due.is("HARD, PASTE 7", x.count(3), 0);
        x.set(4, 1, 8);
        x.stroke(0, 4, 1);
        due.is("HARD, PASTE 8", x.count(3), 1);
        x.set(4, 1, 0);
        x.set(5, 1, 9);
        x.stroke(0, 4, 1);
        due.is("by the CELL told alone", x.count(3), 1);
        due.is("PASTE stays", x.ofCell(4, 1), 0);
        due.is("NIGHT stays", x.count(5), 0);
    }

    private static void edges(Due due) {
        PaperBubbles x = nine(0);
        due.is("not open: stays", x.stroke(0, 1, 0), 20);
        due.is("OUT", x.count(4), 0);
        int[] at = {1, 5, 7, 3};
        int[] left = {10, 30, 40, 20};
        int out = 0;
        for (int way = 0; way < 4; way++) {
            x.edge(way, 1);
            due.is("open " + way, x.stroke(0, at[way], way), left[way]);
            out += left[way];
            due.is("OUT", x.count(4), out);
            x.edge(way, 0);
            due.is("not open " + way, x.stroke(0, at[way], way), left[way]);
        }
        x = nine(30);
        x.edge(1, 1);
        due.is("ROLLER over the edge", x.stroke(0, 4, 1), 0);
        due.is("next", x.ofCell(5, 0), 0);
        due.is("OUT: 11 too many, then 99", x.count(4), 11 + 99);
        x = nine(30);
        due.is("ROLLER, not open", x.stroke(0, 4, 1), 0);
        due.is("99 there", x.ofCell(5, 0), 99);
        due.is("the rest goes OUT", x.count(4), 11);
        x = nine(65);
        x.edge(0, 1);
        due.is("HARD ends at the edge", x.stroke(0, 7, 0), 5);
        due.rows("HARD", Due.all(x, 0), 10, 5, 30, 40, 5, 60, 70, 5, 90);
        due.is("OUT: 26 too many, 15 too many, then 94", x.count(4), 26 + 15 + 94);
    }

    /** Each HARD stroke along a full row lets 4 times 97 go OUT. */
    private static void limits(Due due) {
        PaperBubbles x = new PaperBubbles();
        x.wall(5, 5);
        x.tool(62);
        x.sheet(0, 8, 25);
        for (int i = 0; i < 25; i++) {
            x.put(0, i, 99);
        }
        for (int i = 0; i < 51; i++) {
            x.airs(0);
            for (int row = 0; row < 5; row++) {
                x.stroke(0, 5 * row, 1);
            }
        }
        due.is("OUT", x.count(4), 51 * 5 * 4 * 97);
        due.rows("AIR", Due.all(x, 0), 2, 2, 2, 2, 99, 2, 2, 2, 2, 99, 2, 2, 2, 2, 99, 2, 2, 2, 2, 99, 2, 2, 2, 2, 99);
        x.airs(0);
        x.stroke(0, 0, 1);
        x.stroke(0, 5, 1);
        due.is("OUT", x.count(4), 257 * 4 * 97);
        x.stroke(0, 10, 1);
        due.is("OUT is 99999 at most", x.count(4), 99999);
        due.is("the stroke is as ever", x.ofCell(10, 0), 2);
        x.become(0, 50);
        x.set(0, 0, 1);
        x.stroke(0, 0, 0);
        due.is("OUT is 99999 at most", x.count(4), 99999);
    }

    private static void wrong(Due due) {
        PaperBubbles x = nine(50);
        due.is("stroke(1, 0, 0)", x.stroke(1, 0, 0), Due.BEYOND);
        due.is("stroke(-1, 0, 0)", x.stroke(-1, 0, 0), Due.BEYOND);
        due.is("stroke(0, 9, 0)", x.stroke(0, 9, 0), Due.BEYOND);
        due.is("stroke(0, -1, 0)", x.stroke(0, -1, 0), Due.BEYOND);
        due.is("stroke(0, 0, 4)", x.stroke(0, 0, 4), Due.BEYOND);
        due.is("stroke(0, 0, -1)", x.stroke(0, 0, -1), Due.BEYOND);
        due.is("AIR stays", x.count(2), 450);
        due.is("told(1)", x.told(1), 6);
    }

    private static void nights(Due due) {
        PaperBubbles x = new PaperBubbles();
        x.wall(1, 4);
        Due.airs(x, 20, 3, 9, 50);
        Due.pastes(x, 9, 9, 0, 2);
        due.is("nights(1)", x.nights(1), 11 + 0 + 9 + 48);
        due.rows("AIR", Due.all(x, 0), 11, 0, 9, 48);
        due.rows("PASTE", Due.all(x, 1), 8, 8, 0, 1);
        due.is("nights(2)", x.nights(2), 9 + 47);
        due.rows("AIR", Due.all(x, 0), 0, 0, 9, 47);
        due.rows("PASTE", Due.all(x, 1), 6, 6, 0, 0);
        due.is("NIGHT", x.count(5), 3);
        due.is("OUT stays", x.count(4), 0);
        due.is("nights(0)", x.nights(0), Due.BEYOND);
        due.is("nights(-1)", x.nights(-1), Due.BEYOND);
        due.is("nights(31)", x.nights(31), Due.BEYOND);
        due.is("nights(30)", x.nights(30), 56);
        due.is("NIGHT", x.count(5), 33);
        due.is("told(1)", x.told(1), 3);
    }

    private static void lateNights(Due due) {
        PaperBubbles x = new PaperBubbles();
        for (int i = 0; i < 33; i++) {
            x.nights(30);
        }
        due.is("NIGHT", x.count(5), 990);
        x.set(0, 0, 50);
        x.set(0, 1, 9);
        due.is("nights(10)", x.nights(10), Due.STATE);
        due.is("nights(31)", x.nights(31), Due.BEYOND);
        due.is("days(10), without TOOLS too", x.days(10), Due.STATE);
        due.is("days(9) without TOOLS", x.days(9), Due.STATE);
        x.tool(50);
        due.is("days(10)", x.days(10), Due.STATE);
        due.is("days(31)", x.days(31), Due.BEYOND);
        due.is("nothing changed", x.ofCell(0, 0), 50);
        due.is("z stays", x.count(11), 1);
        x.image();
        due.is("days(9)", x.days(9) >= 0 ? 1 : 0, 1);
        due.is("NIGHT", x.count(5), 999);
        due.is("NIGHT again", x.restore(), 990);
        due.is("nights(9)", x.nights(9), 5);
        due.is("NIGHT", x.count(5), 999);
        due.is("nights(1)", x.nights(1), Due.STATE);
        due.is("days(1)", x.days(1), Due.STATE);
        due.is("what is thought goes on", x.goneBy(0), Due.NONE);
        x.set(0, 1, 5);
        due.is("what is thought goes on", x.goneBy(0), 1);
        due.is("told(3)", x.told(3), 6);
        due.is("told(1)", x.told(1), 2);
    }

    private static void days(Due due) {
        PaperBubbles x = new PaperBubbles();
        due.is("days(1) without TOOLS", x.days(1), Due.STATE);
        due.is("days(0)", x.days(0), Due.BEYOND);
        due.is("days(31)", x.days(31), Due.BEYOND);
        due.is("days(-1)", x.days(-1), Due.BEYOND);
        x.tool(30);
        x.wall(2, 2);
        x.edge(1, 1);
        Due.airs(x, 40, 30, 20, 10);
        due.is("days(1)", x.days(1), dayOne());
        due.is("z", x.count(11), z(1, 3));
        due.is("NIGHT", x.count(5), 1);
        due.is("days(30)", x.days(30), 0);
        due.is("z", x.count(11), z(1, 93));
        due.is("NIGHT", x.count(5), 31);
        due.is("told(3)", x.told(3), 1);
        due.is("told(1)", x.told(1), 3);
    }

    private static int z(int z, int draws) {
        for (int i = 0; i < draws; i++) {
            z = z * 1103515245 + 12345;
        }
        return z;
    }

    /** Cell and way by the second and third draw; the AIR of four cells under a ROLLER, then a night with PASTE 5. */
    private static int dayOne() {
        int cell = (z(1, 2) >>> 8) % 4;
        int way = (z(1, 3) >>> 8) % 4;
        int[] air = {40, 30, 20, 10};
        int row = cell / 2;
        int column = cell % 2;
        for (int i = 0; i < 2; i++) {
            int r = row + (way == 0 ? -1 : way == 2 ? 1 : 0);
            int c = column + (way == 1 ? 1 : way == 3 ? -1 : 0);
            if (r < 0 || r > 1 || c < 0 || c > 1) {
                air[row * 2 + column] = c > 1 ? 0 : air[row * 2 + column];
                break;
            }
            air[r * 2 + c] += air[row * 2 + column];
            air[row * 2 + column] = 0;
            row = r;
            column = c;
        }
        int all = 0;
        for (int a : air) {
            all += Math.max(0, a - 5);
        }
        return all;
    }

    /** Thirty days at once are as thirty strokes and nights that the draws tell. */
    private static void dayByDay(Due due) {
        int[] seeds = {1, 0, -1, 77, Integer.MIN_VALUE, Integer.MAX_VALUE, 123456789};
        for (int seed : seeds) {
            PaperBubbles x = filled(seed);
            PaperBubbles y = filled(seed);
            int z = seed;
            int all = 0;
            for (int day = 0; day < 12; day++) {
                int tool = ((z = z(z, 1)) >>> 8) % 6;
                int cell = ((z = z(z, 1)) >>> 8) % 15;
                int way = ((z = z(z, 1)) >>> 8) % 4;
                y.stroke(tool, cell, way);
                all = y.nights(1);
            }
            due.is("days(12) from " + seed, x.days(12), all);
            due.is("z", x.count(11), z);
            due.rows("AIR from " + seed, Due.all(x, 0), Due.all(y, 0));
            due.is("HOLES", x.count(3), y.count(3));
            due.is("OUT", x.count(4), y.count(4));
        }
    }

    private static PaperBubbles filled(int seed) {
        PaperBubbles x = new PaperBubbles();
        x.wall(3, 5);
        x.seed(seed);
        int[] kms = {0, 13, 29, 31, 54, 65};
        for (int km : kms) {
            x.tool(km);
        }
        x.edge(2, 1);
        for (int i = 0; i < 15; i++) {
            x.set(i, 0, 99 - i * 4);
            x.set(i, 1, i % 4);
        }
        return x;
    }
}
