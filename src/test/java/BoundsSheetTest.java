/** Promises 28 to 35, sentence by sentence, where they name a least, a greatest, an empty or a full thing. */
public final class BoundsSheetTest {
    private static final int MIN = Integer.MIN_VALUE;
    private static final int MAX = Integer.MAX_VALUE;
    private static final int[] WRONG_SHEETS = {MIN, -1, 4, MAX};
    private static final int[] BITS = {8, 16, 32};

    public static void main(String[] args) {
        Due due = new Due("BoundsSheetTest");
        seed(due);
        voiceNumbers(due);
        voiceWrong(due);
        trace(due);
        sheetOfNumbers(due);
        sheetMissing(due);
        sheetWrong(due);
        putLowestBits(due);
        putWrong(due);
        moveAll(due);
        moveAsTheyWere(due);
        moveWrong(due);
        airs(due);
        airsWrong(due);
        judge(due);
        judgeWrong(due);
        due.end();
    }

    // ---- seed, voice, trace

    private static void seed(Due due) {
        due.says(28, "z becomes v: what it was (any number)");
        PaperBubbles x = new PaperBubbles();
        int[] numbers = {1, 0, -1, MIN, MAX, Due.BEYOND, Due.KIND, -1000000000, -1000000006, 1};
        for (int i = 1; i < numbers.length; i++) {
            due.is("seed(" + numbers[i] + ")", x.seed(numbers[i]), numbers[i - 1]);
            due.is("z", x.count(11), numbers[i]);
        }
        due.is("no ERROR", x.told(1) + x.told(2) + x.told(3) + x.told(4) + x.told(5), 0);
    }

    /** What VOICES of the KINDS 0 .. 6 say, as the BODIES tell: act 0 moves, 1 lets, 2 tears, 3 tells. */
    private static int said(int kind, int act, int x, int n, int m) {
        boolean brush = kind == 1 || kind == 4;
        switch (act) {
            case 0:
                return brush ? (x + n) * 3 : x + n;
            case 1:
                int at = kind == 5 ? x + 1 : x;
                int lets = said(kind, 0, at, n, m) * 2;
                return kind == 2 || kind == 5 ? lets - said(kind, 2, 1, n, m) : lets;
            case 2:
                return kind == 3 ? -(x - m) : kind == 6 ? -(x - m) ^ n : x - m;
            default:
                int tells = said(kind, 1, x, n, m) ^ said(kind, 2, x, n, m);
                return kind == 4 ? tells - said(kind, 0, 2, n, m) : kind == 6 ? said(kind, 1, x, n, m) - tells : tells;
        }
    }

    private static void voiceNumbers(Due due) {
        due.says(29, "x (ints that go round); n is the number, m as told: any number");
        int[] xs = {0, 1, -1, 7, MIN, MAX, MIN + 1, MAX - 9, 1431655765, Due.NONE};
        for (int kind = 0; kind < 7; kind++) {
            for (int number = 0; number < 6; number++) {
                PaperBubbles x = new PaperBubbles();
                for (int i = 0; i < 6; i++) {
                    x.tool(0);
                }
                int m = (3 * number + kind) % 10;
                x.become(number, 10 * kind + m);
                for (int act = 0; act < 4; act++) {
                    for (int v : xs) {
                        due.is("KIND " + kind + ", m " + m + ": voice(" + number + ", " + act + ", " + v + ")",
                            x.voice(number, act, v), said(kind, act, v, number, m));
                    }
                }
                due.is("no ERROR", x.told(1) + x.told(2) + x.told(3) + x.told(4) + x.told(5), 0);
            }
        }
    }

    private static void voiceWrong(Due due) {
        due.says(29, "0 moves, 1 lets, 2 tears, 3 tells. BEYOND");
        PaperBubbles x = new PaperBubbles();
        due.is("without TOOLS", x.voice(0, 0, 0), Due.BEYOND);
        x.tool(65);
        x.tool(10);
        x.voice(0, 3, 5);
        int[] wrongTools = {MIN, -1, 2, 6, MAX};
        for (int tool : wrongTools) {
            due.is("voice(" + tool + ", 0, 0)", x.voice(tool, 0, 0), Due.BEYOND);
        }
        for (int act : WRONG_SHEETS) {
            due.is("voice(0, " + act + ", 0)", x.voice(0, act, 0), Due.BEYOND);
        }
        due.is("told(1)", x.told(1), 10);
        due.rows("THE TRACE stays", Due.trace(x), 71, 11, 10, 13, 11, 10, 70, 40, 12);
    }

    private static void trace(Due due) {
        due.says(30, "THE TRACE's i-th. NONE: there is none such");
        PaperBubbles x = new PaperBubbles();
        int[] wrong = {MIN, -1, 0, 1, 39, 40, 41, MAX};
        for (int i : wrong) {
            due.is("ahead of any voice: trace(" + i + ")", x.trace(i), Due.NONE);
        }
        due.is("told(2)", x.told(2), 8);
        due.is("BODIES", x.count(10), 0);
        x.tool(60);
        int[][] bodies = {{10}, {11, 10}, {70, 40, 12}, {71, 11, 10, 13, 11, 10, 70, 40, 12}, {10}};
        for (int k = 0; k < 5; k++) {
            x.voice(0, k % 4, 1);
            due.is("BODIES of the latest", x.count(10), bodies[k].length);
            for (int i = 0; i < 12; i++) {
                due.is("act " + k % 4 + ", trace(" + i + ")", x.trace(i),
                    i < bodies[k].length ? bodies[k][i] : Due.NONE);
            }
            due.is("trace(-1)", x.trace(-1), Due.NONE);
            due.is("trace(40)", x.trace(40), Due.NONE);
        }
        x.voice(0, 4, 1);
        x.voice(1, 0, 1);
        due.rows("that of the latest that was no ERROR", Due.trace(x), 10);
    }

    // ---- sheets

    /** Numbers of a SHEET, read by the AIR they become; -1 is one that can't be AIR. */
    private static int[] read(PaperBubbles x, int sheet, int bits, int many) {
        int[] numbers = new int[many];
        x.wall(1, 1);
        x.sheet(3, bits, 1);
        for (int i = 0; i < many; i++) {
            x.move(sheet, i, 3, 0, 1);
            numbers[i] = x.airs(3) == 1 ? x.ofCell(0, 0) : -1;
        }
        return numbers;
    }

    private static void sheetOfNumbers(Due due) {
        due.says(31, "A SHEET has n numbers (at most 40), all 0, of so many bits (8, 16, 32): 1");
        for (int bits : BITS) {
            for (int n = 0; n <= 40; n++) {
                PaperBubbles x = new PaperBubbles();
                int sheet = n % 4;
                due.is("sheet(" + sheet + ", " + bits + ", " + n + ")", x.sheet(sheet, bits, n), 1);
                due.is("it is there: all 0 are AIR", x.judge(sheet), n == 16 ? -1 : Math.min(n, 16));
                due.is("the last", x.put(sheet, n - 1, 5), n > 0 ? 1 : Due.BEYOND);
                due.is("none behind the last", x.put(sheet, n, 5), Due.BEYOND);
                due.is("again", x.sheet(sheet, bits, n), 1);
                due.is("all 0 again", x.judge(sheet), n == 16 ? -1 : Math.min(n, 16));
                for (int other = 0; other < 4; other++) {
                    due.is("the others are missing", x.judge(other) == Due.NONE ? 1 : 0, other == sheet ? 0 : 1);
                }
            }
        }
        PaperBubbles x = new PaperBubbles();
        x.sheet(0, 8, 20);
        for (int i = 0; i < 20; i++) {
            x.put(0, i, 50 + i);
        }
        x.sheet(0, 8, 0);
        x.sheet(0, 8, 20);
        due.rows("fewer, then more: all 0", read(x, 0, 8, 20), new int[20]);
        x.put(0, 4, 9);
        x.sheet(0, 16, 20);
        due.rows("of other bits: all 0", read(x, 0, 16, 20), new int[20]);
        x.put(0, 4, 9);
        x.sheet(0, 0, 20);
        x.sheet(0, 16, 20);
        due.rows("missing, then there: all 0", read(x, 0, 16, 20), new int[20]);
    }

    private static void sheetMissing(Due due) {
        due.says(31, "0: it is missing, n doesn't matter");
        int[] ns = {MIN, -1, 0, 1, 40, 41, MAX};
        PaperBubbles x = new PaperBubbles();
        for (int sheet = 0; sheet < 4; sheet++) {
            for (int n : ns) {
                due.is("a missing one: sheet(" + sheet + ", 0, " + n + ")", x.sheet(sheet, 0, n), 1);
                x.sheet(sheet, 8, 3);
                due.is("sheet(" + sheet + ", 0, " + n + ")", x.sheet(sheet, 0, n), 1);
                due.is("missing", x.put(sheet, 0, 0), Due.NONE);
            }
        }
        due.is("no other ERROR", x.told(1) + x.told(3) + x.told(4) + x.told(5), 0);
        for (int sheet : WRONG_SHEETS) {
            due.is("sheet(" + sheet + ", 0, 0)", x.sheet(sheet, 0, 0), Due.BEYOND);
        }
    }

    private static void sheetWrong(Due due) {
        due.says(31, "BEYOND. STATE: n is below 0 (ahead of BEYOND of n)");
        PaperBubbles x = new PaperBubbles();
        x.sheet(0, 16, 2);
        x.put(0, 1, 300);
        int beyond = 0;
        int state = 0;
        int[] ns = {MIN, -1, 0, 40, 41, MAX};
        int[] wrongBits = {MIN, -32, -8, -1, 1, 7, 9, 15, 17, 24, 31, 33, 64, MAX};
        for (int n : ns) {
            for (int sheet : WRONG_SHEETS) {
                due.is("sheet(" + sheet + ", 8, " + n + ")", x.sheet(sheet, 8, n), Due.BEYOND);
                due.is("sheet(" + sheet + ", 7, " + n + ")", x.sheet(sheet, 7, n), Due.BEYOND);
                beyond += 2;
            }
            for (int bits : wrongBits) {
                due.is("sheet(0, " + bits + ", " + n + ")", x.sheet(0, bits, n), Due.BEYOND);
                beyond++;
            }
            for (int bits : BITS) {
                if (n < 0) {
                    due.is("sheet(0, " + bits + ", " + n + ")", x.sheet(0, bits, n), Due.STATE);
                    state++;
                } else if (n > 40) {
                    due.is("sheet(0, " + bits + ", " + n + ")", x.sheet(0, bits, n), Due.BEYOND);
                    beyond++;
                }
            }
        }
        due.is("it stays", x.judge(0), 1);
        due.is("none behind its last", x.put(0, 2, 0), Due.BEYOND);
        due.is("told(1)", x.told(1), beyond + 1);
        due.is("told(3)", x.told(3), state);
    }

    private static void putLowestBits(Due due) {
        due.says(32, "Number i of a SHEET becomes v (its lowest bits): 1");
        int[] vs = {0, 1, 99, 100, 127, 128, 255, 256, 355, 32768, 65535, 65536, 65635, 16777216 + 99, MAX, MIN,
            MIN + 99, -1, -157, -65437, -256, -65536};
        for (int k = 0; k < 3; k++) {
            PaperBubbles x = new PaperBubbles();
            x.wall(1, 2);
            x.sheet(k, BITS[k], 2);
            for (int v : vs) {
                long is = v & (1L << BITS[k]) - 1;
                due.is("put(" + k + ", 0, " + v + ")", x.put(k, 0, v), 1);
                boolean air = is <= 99;
                due.is(v + " of " + BITS[k] + " bits is AIR", x.airs(k), air ? 2 : 0);
                due.is(v + " of " + BITS[k] + " bits", air ? x.ofCell(0, 0) : x.judge(k), air ? is : 0);
                x.put(k, 0, 0);
                due.is("the next stays", x.airs(k), 2);
                due.is("the next stays", x.ofCell(1, 0), 0);
            }
            due.is("no ERROR", x.told(1) + x.told(2) + x.told(3) + x.told(4) + x.told(5), 0);
        }
    }

    private static void putWrong(Due due) {
        due.says(32, "BEYOND: no such SHEET. NONE: it is missing. BEYOND: no such number");
        PaperBubbles x = new PaperBubbles();
        int[] is = {MIN, -1, 0, 39, 40, MAX};
        for (int i : is) {
            for (int sheet : WRONG_SHEETS) {
                due.is("put(" + sheet + ", " + i + ", 1)", x.put(sheet, i, 1), Due.BEYOND);
            }
            for (int sheet = 0; sheet < 4; sheet++) {
                due.is("missing: put(" + sheet + ", " + i + ", 1)", x.put(sheet, i, 1), Due.NONE);
            }
        }
        due.is("told(1)", x.told(1), 24);
        due.is("told(2)", x.told(2), 24);
        x.wall(1, 3);
        x.sheet(2, 32, 3);
        int[] wrong = {MIN, -1, 3, 4, 39, 40, 41, MAX};
        for (int i : wrong) {
            due.is("put(2, " + i + ", 7)", x.put(2, i, 7), Due.BEYOND);
        }
        due.is("nothing changed", x.judge(2), -1);
        due.is("put(2, 2, 7)", x.put(2, 2, 7), 1);
        due.is("the last changed", x.judge(2), 2);
        due.is("put(2, 0, 7)", x.put(2, 0, 7), 1);
        due.is("the first changed", x.judge(2), 0);
        x.sheet(2, 32, 0);
        due.is("no numbers: put(2, 0, 7)", x.put(2, 0, 7), Due.BEYOND);
        due.is("told(1)", x.told(1), 24 + 8 + 1);
        due.is("told(2)", x.told(2), 24);
    }

    // ---- move

    private static PaperBubbles counted(int sheet, int bits, int n) {
        PaperBubbles x = new PaperBubbles();
        x.sheet(sheet, bits, n);
        for (int i = 0; i < n; i++) {
            x.put(sheet, i, i + 1);
        }
        return x;
    }

    private static void moveAll(Due due) {
        due.says(33, "n numbers of a SHEET, from i on, come to another one (or the same), from its number j on: n");
        for (int bits : BITS) {
            PaperBubbles x = counted(0, bits, 40);
            x.sheet(1, bits, 40);
            due.is("all 40", x.move(0, 0, 1, 0, 40), 40);
            int[] all = new int[40];
            for (int i = 0; i < 40; i++) {
                all[i] = i + 1;
            }
            due.rows("all 40 came", read(x, 1, bits, 40), all);
            due.is("none, behind the last of both", x.move(0, 40, 1, 40, 0), 0);
            due.is("none", x.move(0, 0, 1, 0, 0), 0);
            due.is("the last one", x.move(0, 39, 1, 39, 1), 1);
            due.is("the last to the first", x.move(0, 39, 1, 0, 1), 1);
            due.is("the first to the last", x.move(0, 0, 1, 39, 1), 1);
            all[0] = 40;
            all[39] = 1;
            due.rows("the first and the last", read(x, 1, bits, 40), all);
            due.is("all to the same", x.move(1, 0, 1, 0, 40), 40);
            due.is("no ERROR", x.told(1) + x.told(2) + x.told(3) + x.told(4) + x.told(5), 0);
        }
        PaperBubbles x = counted(0, 32, 3);
        x.put(0, 1, MIN + 7);
        x.sheet(1, 32, 3);
        due.is("more than 99", x.move(0, 0, 1, 0, 3), 3);
        due.rows("more than 99", read(x, 1, 32, 3), 1, -1, 3);
        x.sheet(1, 8, 0);
        x.sheet(2, 8, 0);
        due.is("none of none", x.move(1, 0, 2, 0, 0), 0);
        due.is("one of none", x.move(1, 0, 2, 0, 1), Due.BEYOND);
    }

    private static void moveAsTheyWere(Due due) {
        due.says(33, "as they all were");
        for (int i = 0; i <= 4; i++) {
            for (int j = 0; j <= 4; j++) {
                for (int n = 0; n <= 6 - Math.max(i, j); n++) {
                    PaperBubbles x = counted(2, 8, 6);
                    int[] want = {1, 2, 3, 4, 5, 6};
                    for (int k = 0; k < n; k++) {
                        want[j + k] = i + k + 1;
                    }
                    due.is("move(2, " + i + ", 2, " + j + ", " + n + ")", x.move(2, i, 2, j, n), n);
                    due.rows("move(2, " + i + ", 2, " + j + ", " + n + ")", read(x, 2, 8, 6), want);
                }
            }
        }
        PaperBubbles x = counted(0, 8, 5);
        x.sheet(1, 8, 3);
        due.is("to another", x.move(0, 2, 1, 0, 3), 3);
        due.rows("the one they are of stays", read(x, 0, 8, 5), 1, 2, 3, 4, 5);
        due.rows("the other one", read(x, 1, 8, 3), 3, 4, 5);
    }

    private static void moveWrong(Due due) {
        due.says(33, "BEYOND: no such SHEET. NONE: one is missing. KIND: unlike bits. BEYOND: n, i, or j");
        PaperBubbles x = counted(0, 8, 4);
        x.sheet(1, 8, 6);
        x.sheet(2, 16, 6);
        int[] told = new int[6];
        // a wrong SHEET ahead of all else: the other one is right, of other bits, missing, wrong
        for (int wrong : WRONG_SHEETS) {
            for (int sheet = 0; sheet < 5; sheet++) {
                due.is("move(" + wrong + ", 9, " + sheet + ", 9, -1)", x.move(wrong, 9, sheet, 9, -1), Due.BEYOND);
                due.is("move(" + sheet + ", 9, " + wrong + ", 9, -1)", x.move(sheet, 9, wrong, 9, -1), Due.BEYOND);
                told[1] += 2;
            }
        }
        // a missing one ahead of unlike bits and of n, i, j
        int[][] places = {{0, 0, 1}, {-1, 0, 1}, {0, -1, 1}, {0, 0, -1}, {0, 0, 41}, {9, 9, 9}, {0, 0, 0}};
        for (int[] p : places) {
            for (int sheet = 0; sheet < 4; sheet++) {
                due.is("missing: move(3, .., " + sheet + ", ..)", x.move(3, p[0], sheet, p[1], p[2]), Due.NONE);
                due.is("missing: move(" + sheet + ", .., 3, ..)", x.move(sheet, p[0], 3, p[1], p[2]), Due.NONE);
                told[2] += 2;
            }
            due.is("unlike bits", x.move(0, p[0], 2, p[1], p[2]), Due.KIND);
            due.is("unlike bits", x.move(2, p[0], 1, p[1], p[2]), Due.KIND);
            told[5] += 2;
        }
        // of 4 and of 6 numbers
        int[][] wrong = {{-1, 0, 1}, {MIN, 0, 1}, {0, -1, 1}, {0, MIN, 1}, {0, 0, -1}, {0, 0, MIN}, {-1, -1, -1},
            {4, 0, 1}, {5, 0, 0}, {0, 6, 1}, {0, 7, 0}, {0, 0, 5}, {1, 0, 4}, {3, 0, 2}, {0, 3, 4}, {0, 5, 2},
            {0, 0, MAX}, {MAX, 0, 1}, {0, MAX, 1}, {1, 0, MAX}, {0, 1, MAX}, {MAX, MAX, MAX}, {MAX, 0, 0},
            {0, MAX, 0}, {2, 2, MAX - 1}, {-1, 0, 0}, {0, -1, 0}, {4, 6, 1}, {40, 0, 1}};
        for (int[] p : wrong) {
            due.is("move(0, " + p[0] + ", 1, " + p[1] + ", " + p[2] + ")", x.move(0, p[0], 1, p[1], p[2]), Due.BEYOND);
            told[1]++;
        }
        due.is("more than the other has", x.move(1, 0, 0, 0, 5), Due.BEYOND);
        due.is("more than the other has", x.move(1, 0, 0, 3, 2), Due.BEYOND);
        told[1] += 2;
        for (int k = 1; k <= 5; k++) {
            due.is("told(" + k + ")", x.told(k), told[k]);
        }
        due.is("just what the other has", x.move(0, 0, 1, 2, 4), 4);
        due.is("none, behind the last", x.move(0, 4, 1, 6, 0), 0);
        due.rows("of 4", read(x, 0, 8, 4), 1, 2, 3, 4);
        due.rows("of 6", read(x, 1, 8, 6), 0, 0, 1, 2, 3, 4);
    }

    // ---- airs, judge

    private static void airs(Due due) {
        due.says(34, "up to the first that is not 0 to 99 (no ERROR then), or for which there is no CELL");
        int[] firsts = {100, 101, 127, 128, 255, 256, 32768, 65535, 65536, MAX, MIN, -1, -100, Due.BEYOND};
        for (int k = 0; k < 3; k++) {
            for (int place = 0; place <= 3; place++) {
                PaperBubbles x = new PaperBubbles();
                x.wall(1, 3);
                x.sheet(0, BITS[k], 4);
                for (int v : firsts) {
                    long is = v & (1L << BITS[k]) - 1;
                    Due.airs(x, 5, 5, 5);
                    for (int i = 0; i < 4; i++) {
                        x.put(0, i, i == place ? v : 99 - i);
                    }
                    int many = is <= 99 ? 3 : Math.min(3, place);
                    due.is(v + " of " + BITS[k] + " bits at " + place, x.airs(0), many);
                    for (int i = 0; i < 3; i++) {
                        due.is("AIR of " + i, x.ofCell(i, 0), i < many ? i == place ? is : 99 - i : 5);
                    }
                }
                due.is("no ERROR", x.told(1) + x.told(2) + x.told(3) + x.told(4) + x.told(5), 0);
            }
        }
        PaperBubbles x = new PaperBubbles();
        for (int n = 0; n <= 40; n++) {
            x.sheet(1, 8, n);
            due.is(n + " numbers, 16 CELLS", x.airs(1), Math.min(n, 16));
        }
        x.wall(5, 5);
        due.is("40 numbers, 25 CELLS", x.airs(1), 25);
        x.wall(1, 1);
        due.is("40 numbers, 1 CELL", x.airs(1), 1);
        x.set(0, 0, 7);
        x.sheet(1, 8, 0);
        due.is("no numbers", x.airs(1), 0);
        due.is("AIR stays", x.ofCell(0, 0), 7);
        due.is("PASTE stays", x.ofCell(0, 1), 5);
        due.is("no ERROR", x.told(1) + x.told(2) + x.told(3) + x.told(4) + x.told(5), 0);
    }

    private static void airsWrong(Due due) {
        due.says(34, "BEYOND: no such SHEET. NONE: it is missing");
        PaperBubbles x = new PaperBubbles();
        x.set(0, 0, 7);
        for (int sheet : WRONG_SHEETS) {
            due.is("airs(" + sheet + ")", x.airs(sheet), Due.BEYOND);
        }
        for (int sheet = 0; sheet < 4; sheet++) {
            due.is("missing: airs(" + sheet + ")", x.airs(sheet), Due.NONE);
            x.sheet(sheet, 8, 0);
            due.is("no numbers: airs(" + sheet + ")", x.airs(sheet), 0);
        }
        due.is("AIR stays", x.count(2), 7);
        due.is("told(1)", x.told(1), 4);
        due.is("told(2)", x.told(2), 4);
    }

    private static void judge(Due due) {
        due.says(35, "the first that isn't so (one that lacks, or is too many, too); -1: all are");
        for (int n = 0; n <= 6; n++) {
            PaperBubbles x = new PaperBubbles();
            x.wall(1, 4);
            Due.airs(x, 99, 0, 1, 98);
            x.sheet(0, 32, n);
            int[] are = {99, 0, 1, 98, 0, 0};
            for (int i = 0; i < n; i++) {
                x.put(0, i, are[i]);
            }
            due.is(n + " numbers of 4", x.judge(0), n == 4 ? -1 : Math.min(n, 4));
            for (int i = n - 1; i >= 0; i--) {
                x.put(0, i, are[i] + 1);
                due.is("1 more at " + i, x.judge(0), Math.min(i, 4));
                x.put(0, i, are[i] - 1);
                due.is("1 less at " + i, x.judge(0), Math.min(i, 4));
                x.put(0, i, are[i] + 256);
                due.is("256 more at " + i, x.judge(0), Math.min(i, 4));
                x.put(0, i, are[i]);
                due.is("so again", x.judge(0), n == 4 ? -1 : Math.min(n, 4));
            }
            due.is("AIR stays", x.count(2), 198);
        }
        PaperBubbles x = new PaperBubbles();
        x.wall(5, 5);
        for (int n = 0; n <= 40; n++) {
            x.sheet(2, 16, n);
            due.is(n + " numbers of 25", x.judge(2), n == 25 ? -1 : Math.min(n, 25));
        }
        x.wall(1, 1);
        due.is("40 numbers of 1", x.judge(2), 1);
        x.set(0, 0, 1);
        due.is("the first isn't so", x.judge(2), 0);
    }

    private static void judgeWrong(Due due) {
        due.says(35, "BEYOND: no such SHEET. NONE: it is missing");
        PaperBubbles x = new PaperBubbles();
        for (int sheet : WRONG_SHEETS) {
            due.is("judge(" + sheet + ")", x.judge(sheet), Due.BEYOND);
        }
        for (int sheet = 0; sheet < 4; sheet++) {
            due.is("missing: judge(" + sheet + ")", x.judge(sheet), Due.NONE);
            x.sheet(sheet, 8, 0);
            due.is("no numbers: judge(" + sheet + ")", x.judge(sheet), 0);
        }
        due.is("told(1)", x.told(1), 4);
        due.is("told(2)", x.told(2), 4);
    }
}
