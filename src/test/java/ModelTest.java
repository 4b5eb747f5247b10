import java.util.Random;

/** Random runs of calls, each on a new object: the program's answers against the Model's. */
public final class ModelTest {
    private static final String SIGNS = "||&&<=>++--**/%!!(())";
    // An object is used for at most 512 calls: no step makes more than those that are left then.
    private static final int MOST_CALLS = 512;
    private static final int MOST_CALLS_OF_A_STEP = 130;
    private final Random random;
    private final PaperBubbles x = new PaperBubbles();
    private final Model y = new Model();
    private final StringBuilder calls = new StringBuilder();
    private int cells = 16;
    private int dear;
    private int made;

    private ModelTest(long seed) {
        random = new Random(seed);
    }

    public static void main(String[] args) {
        int runs = args.length > 0 ? Integer.parseInt(args[0]) : 2500;
        long asked = 0;
        for (int run = 0; run < runs; run++) {
            ModelTest test = new ModelTest(run);
            if (!test.begin(run)) {
                System.exit(1);
            }
            boolean fine = true;
            while (fine && test.made <= MOST_CALLS - 2 * MOST_CALLS_OF_A_STEP) {
                fine = test.call();
            }
            if (!fine || !test.looks()) {
                System.out.println("ModelTest: run " + run + test.calls);
                System.exit(1);
            }
            asked += test.made;
        }
        System.out.println("ModelTest: " + asked + " answers are as the Model's");
    }

    private boolean begin(int run) {
        boolean fine = true;
        if (run % 3 > 0) {
            for (int i = 0; i < 1 + run % 6; i++) {
                fine &= tool(random.nextInt(70));
            }
        }
        if (run % 2 == 0) {
            for (int cell = 0; cell < 16; cell++) {
                fine &= same("set", x.set(cell, 0, cell * 6), y.set(cell, 0, cell * 6));
            }
        }
        return fine;
    }

    private boolean same(String call, int got, int want) {
        made++;
        calls.append("\n  ").append(call).append(" answered ").append(got);
        if (got != want) {
            calls.append(", the Model ").append(want);
        }
        return got == want;
    }

    private int of(int least, int most) {
        int lot = random.nextInt(40);
        if (lot == 0) {
            return least - 1;
        }
        if (lot == 1) {
            return most + 1;
        }
        if (lot == 2) {
            return any();
        }
        if (lot == 3) {
            return random.nextBoolean() ? least : most;
        }
        return least + random.nextInt(most - least + 1);
    }

    private int any() {
        switch (random.nextInt(5)) {
            case 0:
                return random.nextInt(400) - 200;
            case 1:
                return random.nextBoolean() ? Integer.MIN_VALUE : Integer.MAX_VALUE;
            case 2:
                return -1000000001 - random.nextInt(5);
            default:
                return random.nextInt();
        }
    }

    private int cell() {
        return of(0, cells - 1);
    }

    private int hand() {
        return of(0, Math.max(1, y.count(1)) - 1);
    }

    private boolean tool(int km) {
        return same("tool(" + km + ")", x.tool(km), y.tool(km));
    }

    private boolean wall() {
        int rows = of(1, 5);
        int columns = of(1, 5);
        boolean fine = same("wall(" + rows + ", " + columns + ")", x.wall(rows, columns), y.wall(rows, columns));
        cells = y.count(0);
        for (int i = 0; fine && i < cells; i++) {
            int v = random.nextInt(3) == 0 ? 0 : random.nextInt(random.nextBoolean() ? 100 : 20);
            int p = random.nextInt(10);
            fine = same("set", x.set(i, 0, v), y.set(i, 0, v)) && same("set", x.set(i, 1, p), y.set(i, 1, p));
        }
        return fine;
    }

    /** Mostly whole, for a TEXT is whole seldom by chance. */
    private String expression(int depth, String names) {
        int lot = random.nextInt(depth > 3 ? 2 : 6);
        switch (lot) {
            case 0:
                return "" + names.charAt(random.nextInt(3));
            case 1:
                return "" + random.nextInt(random.nextInt(3) == 0 ? 10000 : 12);
            case 2:
                return "!" + expression(depth + 1, names);
            case 3:
                return "(" + expression(depth + 1, names) + ")";
            default:
                return expression(depth + 1, names) + SIGNS.charAt(random.nextInt(15)) + expression(depth + 1, names);
        }
    }

    private boolean text() {
        int use = of(0, 1);
        String text = expression(0, use == 1 ? "arc" : "apm");
        if (random.nextInt(3) == 0) {
            StringBuilder b = new StringBuilder(text);
            String all = SIGNS + "apmrc01289 x";
            b.insert(random.nextInt(b.length() + 1), all.charAt(random.nextInt(all.length())));
            text = b.toString();
        }
        if (random.nextInt(8) == 0) {
            text = text.substring(0, random.nextInt(text.length() + 1));
        }
        boolean fine = true;
        for (int i = 0; fine && i < text.length(); i += 8) {
            long word = random.nextLong();
            int n = Math.min(8, text.length() - i);
            for (int k = 0; k < n; k++) {
                word = word & ~(255L << 8 * k) | (long) text.charAt(i + k) << 8 * k;
            }
            fine = same("feed(" + word + ", " + n + ")", x.feed(word, n), y.feed(word, n));
        }
        return fine && same("text(" + use + ") of " + text, x.text(use), y.text(use));
    }

    private boolean looks() {
        boolean fine = true;
        for (int what = 0; fine && what < 12; what++) {
            fine = same("count(" + what + ")", x.count(what), y.count(what));
        }
        for (int i = 0; fine && i < cells; i++) {
            for (int what = 0; what < 4; what++) {
                fine &= same("ofCell(" + i + ", " + what + ")", x.ofCell(i, what), y.ofCell(i, what));
            }
        }
        for (int i = 0; fine && i <= y.count(10); i++) {
            fine = same("trace(" + i + ")", x.trace(i), y.trace(i));
        }
        for (int k = 1; fine && k < 6; k++) {
            fine = same("told(" + k + ")", x.told(k), y.told(k));
        }
        return fine;
    }

    private boolean call() {
        int lot = random.nextInt(46);
        return lot < 12 ? callWall(lot) : lot < 28 ? callThought(lot) : callRest(lot);
    }

    private boolean callWall(int lot) {
        int a;
        int b;
        int c;
        switch (lot) {
            case 0:
                return random.nextInt(6) > 0 || wall();
            case 1:
            case 2:
                a = cell();
                b = of(0, 1);
                c = b == 1 ? of(0, 9) : of(0, 99);
                return same("set(" + a + ", " + b + ", " + c + ")", x.set(a, b, c), y.set(a, b, c));
            case 3:
                return looks();
            case 4:
                a = of(0, 3);
                b = of(0, 1);
                return same("edge(" + a + ", " + b + ")", x.edge(a, b), y.edge(a, b));
            case 5:
                return random.nextInt(8) > 0 || tool(of(0, 69));
            case 6:
                a = hand();
                b = of(0, 6);
                return same("ofTool(" + a + ", " + b + ")", x.ofTool(a, b), y.ofTool(a, b));
            case 7:
                a = hand();
                b = of(0, 69);
                return same("become(" + a + ", " + b + ")", x.become(a, b), y.become(a, b));
            case 8:
                a = hand();
                b = of(0, 6);
                return same("as(" + a + ", " + b + ")", x.as(a, b), y.as(a, b));
            case 9:
                long word = random.nextLong();
                a = of(1, 8);
                return random.nextInt(5) > 0 || same("feed(" + word + ", " + a + ")", x.feed(word, a), y.feed(word, a));
            case 10:
                return text();
            default:
                return callLaw();
        }
    }

    private boolean callLaw() {
        int use = of(0, 1);
        int a = random.nextInt(4) == 0 ? any() : of(0, 99);
        int b = random.nextInt(4) == 0 ? any() : of(0, 9);
        int c = random.nextInt(4) == 0 ? any() : of(0, 9);
        return same("law(" + use + ", " + a + ", " + b + ", " + c + ")", x.law(use, a, b, c), y.lawOf(use, a, b, c));
    }

    private boolean callThought(int lot) {
        int a;
        int b;
        int c;
        int d;
        switch (lot) {
            case 12:
            case 13:
                a = hand();
                b = cell();
                c = of(0, 3);
                return same("stroke(" + a + ", " + b + ", " + c + ")", x.stroke(a, b, c), y.stroke(a, b, c));
            case 14:
                a = random.nextInt(3) == 0 ? of(1, 30) : of(1, 2);
                return random.nextInt(3) > 0 || same("nights(" + a + ")", x.nights(a), y.nights(a));
            case 15:
                a = of(1, 30);
                return random.nextInt(3) > 0 || same("days(" + a + ")", x.days(a), y.days(a));
            case 16:
                return same("shown()", x.shown(), y.shown());
            case 17:
                return same("bubbles()", x.bubbles(), y.bubbles());
            case 18:
                a = of(0, 1);
                return same("biggest(" + a + ")", x.biggest(a), y.biggest(a));
            case 19:
                a = cell();
                return same("wayOut(" + a + ")", x.wayOut(a), y.wayOut(a));
            case 20:
                a = hand();
                b = of(0, 1);
                return same("best(" + a + ", " + b + ")", x.best(a, b), y.best(a, b));
            case 21:
                if (cells > 9 && dear > 0 || cells > 4 && dear > 5) {
                    return true;
                }
                dear++;
                a = hand();
                b = of(0, 1);
                return same("bestTwo(" + a + ", " + b + ")", x.bestTwo(a, b), y.bestTwo(a, b));
            case 22:
                a = cell();
                return same("goneBy(" + a + ")", x.goneBy(a), y.goneBy(a));
            case 23:
                return same("never()", x.never(), y.never());
            case 24:
                a = cell();
                b = of(0, 30);
                return same("needs(" + a + ", " + b + ")", x.needs(a, b), y.needs(a, b));
            case 25:
                a = of(0, 3);
                return same("lamp(" + a + ")", x.lamp(a), y.lamp(a));
            case 26:
                return callCame();
            default:
                a = hand();
                b = cell();
                c = random.nextBoolean() ? of(0, 9999) : Math.max(0, y.shown() + random.nextInt(60) - 40);
                d = of(0, 1);
                return same("odds(" + a + ", " + b + ", " + c + ", " + d + ")", x.odds(a, b, c, d), y.odds(a, b, c, d));
        }
    }

    /** A SHEET that tells what a tool's stroke would leave, as a kind by chance. */
    private boolean callCame() {
        int tool = hand();
        int cell = cell();
        int way = of(0, 3);
        int sheet = of(0, 3);
        if (tool >= 0 && tool < y.count(1) && sheet >= 0 && sheet < 4 && random.nextInt(4) > 0) {
            int m = y.ofTool(tool, 1);
            int as = 10 * random.nextInt(7) + m;
            boolean fine = same("image()", x.image(), y.image());
            fine &= same("become", x.become(tool, as), y.become(tool, as));
            fine &= same("stroke", x.stroke(tool, cell, way), y.stroke(tool, cell, way));
            fine &= same("sheet", x.sheet(sheet, 8, cells), y.sheet(sheet, 8, cells));
            for (int i = 0; i < cells; i++) {
                made++;
                fine &= same("put", x.put(sheet, i, x.ofCell(i, 0)), y.put(sheet, i, y.ofCell(i, 0)));
            }
            fine &= same("restore()", x.restore(), y.restore());
            fine &= same("as", x.ofTool(tool, 0), y.ofTool(tool, 0));
            if (!fine) {
                return false;
            }
        }
        return same("came(" + tool + ", " + cell + ", " + way + ", " + sheet + ")", x.came(tool, cell, way, sheet),
            y.came(tool, cell, way, sheet));
    }

    private boolean callRest(int lot) {
        int a;
        int b;
        int c;
        switch (lot) {
            case 28:
                a = any();
                return same("seed(" + a + ")", x.seed(a), y.seed(a));
            case 29:
            case 30:
            case 31:
                a = hand();
                b = of(0, 3);
                c = any();
                return same("voice(" + a + ", " + b + ", " + c + ")", x.voice(a, b, c), y.voice(a, b, c));
            case 32:
                a = of(0, 9);
                return same("trace(" + a + ")", x.trace(a), y.trace(a));
            case 33:
            case 34:
                a = of(0, 3);
                int[] bits = {0, 8, 8, 8, 8, 16, 32, 7};
                b = bits[random.nextInt(8)];
                c = random.nextInt(3) == 0 ? cells : of(0, 40);
                return same("sheet(" + a + ", " + b + ", " + c + ")", x.sheet(a, b, c), y.sheet(a, b, c));
            case 35:
            case 36:
                a = of(0, 3);
                b = of(0, random.nextBoolean() ? 39 : 5);
                c = random.nextInt(3) == 0 ? any() : of(0, 99);
                return same("put(" + a + ", " + b + ", " + c + ")", x.put(a, b, c), y.put(a, b, c));
            case 37:
            case 38:
                return callMove();
            case 39:
                a = of(0, 3);
                return same("airs(" + a + ")", x.airs(a), y.airs(a));
            case 40:
                a = of(0, 3);
                return same("judge(" + a + ")", x.judge(a), y.judge(a));
            case 41:
                return random.nextInt(4) > 0 || same("image()", x.image(), y.image());
            case 42:
                boolean fine = random.nextInt(4) > 0 || same("restore()", x.restore(), y.restore());
                cells = y.count(0);
                return fine;
            case 43:
                return callTell();
            case 44:
                return random.nextInt(3) > 0 || same("check()", x.check(), y.check());
            default:
                a = of(1, 5);
                return same("told(" + a + ")", x.told(a), y.told(a));
        }
    }

    private boolean callMove() {
        int a = of(0, 3);
        int i = of(0, 10);
        int b = of(0, 3);
        int j = of(0, 10);
        int n = of(0, 12);
        return same("move(" + a + ", " + i + ", " + b + ", " + j + ", " + n + ")", x.move(a, i, b, j, n),
            y.move(a, i, b, j, n));
    }

    /** Often what check() asks for: AIR behind nights, found by nights that are taken back. */
    private boolean callTell() {
        int many = random.nextInt(6);
        boolean fine = same("check()", x.check(), y.check()) && same("image()", x.image(), y.image());
        int[] airs = new int[many];
        for (int i = 0; i < many; i++) {
            airs[i] = y.nights(1);
            fine &= same("nights(1)", x.nights(1), airs[i]);
        }
        fine &= same("restore()", x.restore(), y.restore());
        for (int i = 0; i < many; i++) {
            int v = random.nextInt(12) == 0 ? any() : airs[i];
            fine &= same("tell(" + v + ")", x.tell(v), y.tell(v));
        }
        return fine;
    }
}
