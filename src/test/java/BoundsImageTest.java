/** Promises 36 to 41, sentence by sentence, where they name a least, a greatest, an empty or a full thing. */
public final class BoundsImageTest {
    private static final int MIN = Integer.MIN_VALUE;
    private static final int MAX = Integer.MAX_VALUE;
    private static final int PIECES = 20;

    public static void main(String[] args) {
        Due due = new Due("BoundsImageTest");
        noImage(due);
        pieces(due);
        piecesTwice(due);
        whatIsNotIn(due);
        inPlaceOfOneAhead(due);
        imageOfNew(due);
        tapeOfImage(due);
        tellTwenty(due);
        checkPlaces(due);
        checkOnlyThought(due);
        counts(due);
        countWrong(due);
        told(due);
        toldEach(due);
        fiveHundredAndTwelve(due);
        due.end();
    }

    private static void noImage(Due due) {
        due.says(37, "NONE: there is none");
        PaperBubbles x = new PaperBubbles();
        x.set(0, 0, 7);
        due.is("restore()", x.restore(), Due.NONE);
        due.is("restore()", x.restore(), Due.NONE);
        due.is("AIR stays", x.ofCell(0, 0), 7);
        due.is("told(2)", x.told(2), 2);
        due.is("image()", x.image(), 1);
        due.is("restore()", x.restore(), 0);
        due.is("told(2)", x.told(2), 2);
    }

    /** Changes one piece of all; each time it changes it otherwise. */
    private static void change(PaperBubbles x, int piece, int time) {
        switch (piece) {
            case 0 -> x.wall(3 + time, 2);
            case 1 -> x.wall(2, 3 + time);
            case 2 -> x.set(0, 0, 60 + time);
            case 3 -> x.set(5, 0, 70 + time);
            case 4 -> x.set(5, 1, 8 + time);
            case 5 -> x.edge(0, 1 - time);
            case 6 -> x.edge(1, 1);
            case 7 -> x.edge(2, 1);
            case 8 -> x.edge(3, 0);
            case 9 -> x.stroke(1, time, 0);
            case 10 -> x.nights(3 + time);
            case 11 -> x.tool(20 + time);
            case 12 -> x.become(0, 64 + time);
            case 13 -> x.feed('7', 1 + time);
            case 14 -> x.text(0);
            case 15 -> x.text(1);
            case 16 -> x.seed(77 + time);
            case 17 -> x.tell(88 + time);
            case 18 -> x.check();
            default -> {
                x.check();
                x.tell(160);
                x.tell(154 + time);
            }
        }
    }

    private static PaperBubbles some() {
        PaperBubbles x = new PaperBubbles();
        x.wall(2, 3);
        x.tool(12);
        x.tool(53);
        Due.airs(x, 9, 20, 30, 40, 50, 60);
        Due.pastes(x, 3, 1, 2, 3, 4, 5);
        x.edge(3, 1);
        x.edge(0, 0);
        x.stroke(1, 1, 2);
        x.nights(1);
        Due.text(x, 0, "a-3");
        Due.text(x, 1, "a+r");
        Due.feed(x, "a+6");
        x.seed(5);
        // AIR behind 1 and 2 NIGHTS, as it will be
        x.tell(160);
        x.tell(153);
        return x;
    }

    private static int look(int[] seen, int at, int v) {
        if (at < seen.length) {
            seen[at] = v;
        }
        return at + 1;
    }

    /** What is told of all but SHEETS, THE TRACE and told(); THE TAPE and what waits come last, and are gone then. */
    private static int[] look(PaperBubbles x) {
        int[] seen = new int[160];
        int at = 0;
        for (int what = 0; what < 12; what++) {
            at = look(seen, at, what == 10 ? 0 : x.count(what));
        }
        int cells = x.count(0);
        for (int cell = 0; cell < cells; cell++) {
            for (int what = 0; what < 3; what++) {
                at = look(seen, at, x.ofCell(cell, what));
            }
            at = look(seen, at, x.biggest(1));
        }
        int tools = x.count(1);
        for (int tool = 0; tool < tools; tool++) {
            at = look(seen, at, x.ofTool(tool, 0));
            at = look(seen, at, x.ofTool(tool, 1));
        }
        for (int use = 0; use < 2; use++) {
            at = look(seen, at, x.law(use, 50, 7, 2));
            at = look(seen, at, x.law(use, 13, 1, 1));
        }
        at = look(seen, at, x.check());
        at = look(seen, at, x.text(0));
        at = look(seen, at, x.law(0, 31, 1, 1));
        at = look(seen, at, x.count(8));
        at = look(seen, at, x.count(9));
        return seen;
    }

    private static void pieces(Due due) {
        due.says(37, "All is as the IMAGE has it: NIGHT");
        int[] was = look(some());
        for (int piece = 0; piece < PIECES; piece++) {
            PaperBubbles x = some();
            change(x, piece, 0);
            due.is("the change of piece " + piece + " is seen", differs(look(x), was) ? 1 : 0, 1);
            x = some();
            due.is("image()", x.image(), 1);
            change(x, piece, 0);
            due.is("restore() behind a change of piece " + piece, x.restore(), 1);
            due.rows("behind a change of piece " + piece, look(x), was);
            due.is("told(2)", x.told(2), 0);
        }
    }

    private static boolean differs(int[] one, int[] other) {
        return !java.util.Arrays.equals(one, other);
    }

    private static void piecesTwice(Due due) {
        due.says(37, "the IMAGE, which stays");
        int[] was = look(some());
        for (int piece = 0; piece < PIECES; piece++) {
            PaperBubbles x = some();
            x.image();
            change(x, piece, 0);
            x.restore();
            change(x, piece, 1);
            change(x, (piece + 5) % PIECES, 0);
            due.is("restore() again, piece " + piece, x.restore(), 1);
            due.rows("behind two changes of piece " + piece, look(x), was);
            due.is("restore() once more", x.restore(), 1);
            due.rows("behind what looking changed", look(x), was);
        }
        PaperBubbles x = some();
        x.image();
        for (int piece = 0; piece < PIECES; piece++) {
            change(x, piece, 0);
        }
        due.is("restore()", x.restore(), 1);
        due.rows("behind all changes", look(x), was);
    }

    private static void whatIsNotIn(Due due) {
        due.says(36, "All (but SHEETS, THE TRACE, what told() tells, and how often this was done)");
        PaperBubbles x = new PaperBubbles();
        x.wall(1, 2);
        x.tool(60);
        x.sheet(0, 8, 2);
        x.sheet(1, 16, 2);
        x.put(1, 1, 4);
        x.sheet(2, 32, 3);
        x.voice(0, 0, 0);
        x.set(9, 9, 9);
        due.is("image()", x.image(), 1);
        x.sheet(0, 0, 0);
        x.put(1, 0, 3);
        x.sheet(2, 8, 2);
        x.put(2, 1, 5);
        x.sheet(3, 16, 1);
        x.voice(0, 2, 0);
        x.set(9, 9, 9);
        x.biggest(0);
        x.days(0);
        x.as(0, 1);
        for (int i = 0; i < 21; i++) {
            x.tell(i);
        }
        due.is("image() is not in it", x.image(), 2);
        due.is("restore()", x.restore(), 0);
        due.is("a SHEET that went is missing", x.judge(0), Due.NONE);
        due.is("a number that was put", x.airs(1), 2);
        due.rows("numbers that were put", Due.all(x, 0), 3, 4);
        due.is("other bits", x.move(2, 0, 1, 0, 1), Due.KIND);
        due.is("as many numbers as it has now", x.airs(2), 2);
        due.rows("numbers that were put", Due.all(x, 0), 0, 5);
        due.is("a SHEET that came", x.put(3, 0, 1), 1);
        due.rows("THE TRACE", Due.trace(x), 70, 40, 12);
        due.is("told(1)", x.told(1), 3);
        due.is("told(2)", x.told(2), 2);
        due.is("told(3)", x.told(3), 0);
        due.is("told(4)", x.told(4), 1);
        due.is("told(5)", x.told(5), 2);
        due.is("how often", x.image(), 3);
        x.restore();
        due.is("how often", x.image(), 4);
    }

    private static void inPlaceOfOneAhead(Due due) {
        due.says(36, "kept as an IMAGE, in place of one ahead: how often that was done");
        PaperBubbles x = new PaperBubbles();
        for (int i = 1; i <= 20; i++) {
            x.set(3, 0, i);
            due.is("image()", x.image(), i);
            x.nights(2);
            due.is("restore()", x.restore(), 0);
            due.is("the latest", x.ofCell(3, 0), i);
        }
        x.nights(30);
        x.image();
        due.is("NIGHT of the latest", x.restore(), 30);
        x.nights(1);
        due.is("NIGHT of the latest", x.restore(), 30);
        due.is("NIGHT", x.count(5), 30);
    }

    private static void imageOfNew(Due due) {
        due.says(36, "All: without TOOLS, TEXTS, bytes, numbers that wait, too");
        PaperBubbles x = new PaperBubbles();
        int[] was = look(new PaperBubbles());
        x.image();
        x.wall(5, 5);
        x.tool(11);
        x.tool(22);
        for (int way = 0; way < 4; way++) {
            x.edge(way, 1);
        }
        Due.text(x, 0, "7");
        Due.text(x, 1, "8");
        x.set(24, 0, 80);
        x.stroke(1, 24, 0);
        x.nights(30);
        Due.feed(x, "++++");
        x.tell(0);
        x.seed(3);
        due.is("restore()", x.restore(), 0);
        due.rows("as at first", look(x), was);
        due.is("without TOOLS", x.ofTool(0, 0), Due.BEYOND);
        due.is("a first TOOL", x.tool(0), 0);
    }

    private static void tapeOfImage(Due due) {
        due.says(37, "All is as the IMAGE has it: THE TAPE");
        for (int n = 0; n <= 50; n += 5) {
            PaperBubbles x = new PaperBubbles();
            StringBuilder b = new StringBuilder();
            for (int i = 0; i < n; i++) {
                b.append(i % 2 == 0 ? '1' : '+');
            }
            Due.feed(x, b.toString());
            x.image();
            due.is("text(0) of " + n + " bytes", x.text(0), n % 2 == 1 ? 1 : -10 - n);
            Due.feed(x, "a+a+a+a+a+a+a+a+a+a+a+a+a+a+a+a+a+a+a+a+a+a+a+a+aa".substring(0, 50 - n / 2));
            x.restore();
            due.is("bytes", x.count(8), n);
            due.is("room for 8", x.feed(0x2B312B312B312B31L, 8), n <= 42 ? n + 8 : Due.FULL);
            x.restore();
            due.is("text(0) of " + n + " bytes", x.text(0), n % 2 == 1 ? 1 : -10 - n);
            due.is("law", x.law(0, 60, 0, 0), n % 2 == 1 ? (n + 1) / 2 : 30);
        }
    }

    // ---- tell, check

    private static void tellTwenty(Due due) {
        due.says(38, "One more number waits: how many. FULL: 20 wait");
        int[] any = {0, 1, -1, MIN, MAX, Due.BEYOND, Due.FULL, -1000000000};
        PaperBubbles x = new PaperBubbles();
        for (int round = 0; round < 3; round++) {
            for (int i = 0; i < 20; i++) {
                due.is("tell(" + any[i % 8] + ")", x.tell(any[i % 8]), i + 1);
                due.is("how many wait", x.count(9), i + 1);
            }
            for (int v : any) {
                due.is("20 wait: tell(" + v + ")", x.tell(v), Due.FULL);
            }
            due.is("20 wait", x.count(9), 20);
            due.is("told(4)", x.told(4), 8 * (round + 1));
            due.is("check(): the second isn't so", x.check(), 2);
            due.is("none waits", x.count(9), 0);
        }
        due.is("no other ERROR", x.told(1) + x.told(2) + x.told(3) + x.told(5), 0);
    }

    private static PaperBubbles nightly() {
        PaperBubbles x = new PaperBubbles();
        x.wall(1, 3);
        Due.airs(x, 99, 99, 99);
        Due.pastes(x, 9, 9, 0);
        return x;
    }

    /** AIR of nightly() behind so many NIGHTS. */
    private static int behind(int nights) {
        int left = 99;
        for (int i = 0; i < nights; i++) {
            left -= Math.max(0, 9 - i);
        }
        return 2 * left + 99;
    }

    private static void checkPlaces(Due due) {
        due.says(39, "AIR of all behind 1, 2, .. NIGHTS: 0; else 1 and the place (from 0) of the first that isn't so");
        PaperBubbles x = nightly();
        due.is("no number waits", x.check(), 0);
        due.is("still none", x.check(), 0);
        for (int many = 1; many <= 20; many += 19) {
            for (int wrong = -1; wrong < many; wrong++) {
                x = nightly();
                for (int i = 0; i < many; i++) {
                    x.tell(behind(i + 1) + (i == wrong ? 1 : 0));
                }
                due.is(many + " numbers, wrong at " + wrong, x.check(), wrong + 1);
                due.is("none waits then", x.count(9), 0);
                for (int i = 0; i < many; i++) {
                    x.tell(behind(i + 1) - (i == wrong || i == many - 1 ? 1 : 0));
                }
                due.is(many + " numbers, wrong at " + wrong + " and the last", x.check(), wrong < 0 ? many : wrong + 1);
                due.is("none waits then", x.count(9), 0);
            }
        }
        x = nightly();
        x.tell(behind(0));
        due.is("the first is behind 1 NIGHT", x.check(), 1);
        x.tell(behind(1));
        due.is("the first is behind 1 NIGHT", x.check(), 0);
        x.nights(1);
        x.tell(behind(2));
        due.is("from the NIGHT that is", x.check(), 0);
        x.set(2, 0, 0);
        x.tell(behind(2) - 99);
        due.is("of all CELLS as they are then", x.check(), 0);
        x.tell(behind(2) - 99);
        x.tell(behind(3) - 99);
        due.is("behind the first that isn't so none waits", x.check(), 0);
    }

    private static void checkOnlyThought(Due due) {
        due.says(39, "(none do then): AIR behind NIGHTS that are only thought");
        PaperBubbles x = nightly();
        for (int i = 0; i < 20; i++) {
            x.tell(behind(i + 1));
        }
        due.is("check()", x.check(), 0);
        due.is("AIR", x.count(2), 297);
        due.is("PASTE", x.ofCell(0, 1), 9);
        due.is("NIGHT", x.count(5), 0);
        for (int i = 0; i < 33; i++) {
            x.nights(30);
        }
        x.nights(9);
        due.is("NIGHT", x.count(5), 999);
        int all = x.count(2);
        for (int i = 0; i < 20; i++) {
            x.tell(all);
        }
        due.is("check() at NIGHT 999", x.check(), 0);
        due.is("NIGHT", x.count(5), 999);
        due.is("told(3)", x.told(3), 0);
    }

    // ---- count, told

    private static void counts(Due due) {
        due.says(40, "0 CELLS, 1 TOOLS, 2 AIR of all together, 3 HOLES, 4 OUT, 5 NIGHT, 6 CELLS with AIR, ..");
        PaperBubbles x = new PaperBubbles();
        x.wall(5, 5);
        for (int cell = 0; cell < 25; cell++) {
            x.set(cell, 0, 99);
            due.is("AIR of all", x.count(2), 99 * (cell + 1));
            due.is("CELLS with AIR", x.count(6), cell + 1);
        }
        for (int cell = 0; cell < 25; cell++) {
            x.set(cell, 0, 1);
        }
        due.is("AIR of all", x.count(2), 25);
        due.is("CELLS with AIR 1", x.count(6), 25);
        x.set(24, 0, 0);
        due.is("CELLS with AIR", x.count(6), 24);
        due.is("CELLS", x.count(0), 25);
        for (int open = 0; open < 16; open++) {
            for (int way = 0; way < 4; way++) {
                x.edge(way, open >> way & 1);
            }
            due.is("OPEN EDGES as bits", x.count(7), open);
        }
        for (int i = 0; i <= 50; i++) {
            due.is("bytes of THE TAPE", x.count(8), i);
            x.feed('a', 1);
        }
        due.is("bytes of THE TAPE", x.count(8), 50);
        for (int i = 0; i <= 20; i++) {
            due.is("numbers that wait", x.count(9), i);
            x.tell(0);
        }
        due.is("numbers that wait", x.count(9), 20);
        for (int i = 0; i <= 6; i++) {
            due.is("TOOLS", x.count(1), i);
            x.tool(60);
        }
        due.is("TOOLS", x.count(1), 6);
        int[] bodies = {1, 2, 3, 9};
        for (int act = 0; act < 4; act++) {
            x.voice(0, act, 0);
            due.is("BODIES in THE TRACE", x.count(10), bodies[act]);
        }
        int[] zs = {0, -1, MIN, MAX, Due.BEYOND, Due.NONE, Due.STATE, Due.FULL, Due.KIND};
        for (int z : zs) {
            x.seed(z);
            due.is("z (any number)", x.count(11), z);
        }
        due.is("no ERROR", x.told(1) + x.told(2) + x.told(3) + x.told(5), 0);
        due.is("three were FULL", x.told(4), 3);
    }

    private static void countWrong(Due due) {
        due.says(40, "BEYOND");
        PaperBubbles x = new PaperBubbles();
        int[] wrong = {MIN, -1, 12, 13, MAX};
        for (int what : wrong) {
            due.is("count(" + what + ")", x.count(what), Due.BEYOND);
        }
        due.is("told(1)", x.told(1), 5);
    }

    private static void told(Due due) {
        due.says(41, "How many acts have answered an ERROR LOW - k (k 1 .. 5); BEYOND: another k (counted, too)");
        PaperBubbles x = new PaperBubbles();
        int[] wrong = {MIN, -2, -1, 0, 6, 7, MAX};
        int many = 0;
        for (int k : wrong) {
            due.is("told(" + k + ")", x.told(k), Due.BEYOND);
            many++;
            due.is("counted, too", x.told(1), many);
        }
        for (int k = 2; k <= 5; k++) {
            due.is("told(" + k + ")", x.told(k), 0);
        }
        x.image();
        x.told(0);
        x.restore();
        due.is("an IMAGE doesn't matter", x.told(1), many + 1);
        x.seed(Due.NONE);
        x.seed(0);
        due.is("what is any number is no ERROR", x.told(2), 0);
        Due.text(x, 0, "(");
        due.is("a FAULT is no ERROR", x.told(1), many + 1);
    }

    private static void toldEach(Due due) {
        due.says(41, "How many acts have answered an ERROR LOW - k");
        PaperBubbles x = new PaperBubbles();
        int[] told = new int[6];
        for (int i = 0; i < 6; i++) {
            x.tool(10);
        }
        for (int i = 0; i < 8; i++) {
            int[] answers = {0, x.wall(6, 1), x.trace(0), x.sheet(0, 8, -1), x.tool(0), x.as(0, 2)};
            for (int k = 1; k <= 5; k++) {
                due.is("an ERROR " + k, answers[k], -1000000000 - k);
                told[k]++;
            }
            for (int k = 1; k <= 5; k++) {
                due.is("told(" + k + ")", x.told(k), told[k]);
                x.restore();
                told[2]++;
            }
        }
    }

    private static void fiveHundredAndTwelve(Due due) {
        due.says(41, "An object is used for at most 512 calls");
        PaperBubbles x = new PaperBubbles();
        for (int i = 0; i < 511; i++) {
            x.biggest(2);
        }
        due.is("the 512th call: told(1)", x.told(1), 511);
        x = new PaperBubbles();
        for (int i = 1; i <= 512; i++) {
            due.is("image() " + i, x.image(), i);
        }
        x = new PaperBubbles();
        for (int i = 0; i < 170; i++) {
            x.feed('0' + i % 10, 1);
            due.is("TEXT " + i, x.text(i % 2), 1);
            due.is("law behind TEXT " + i, x.law(i % 2, 1, 1, 1), i % 10);
        }
        due.is("the 511th call", x.law(0, 1, 1, 1), 8);
        due.is("the 512th call", x.law(1, 1, 1, 1), 9);
        x = new PaperBubbles();
        x.image();
        for (int i = 0; i < 255; i++) {
            due.is("restore() " + i, x.restore(), 0);
            due.is("set behind it", x.set(i % 16, 0, 9), 0);
        }
        due.is("the 512th call: AIR", x.count(2), 9);
    }
}
