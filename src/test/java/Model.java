import java.util.ArrayList;
import java.util.Arrays;
import java.util.List;
import java.util.TreeMap;
import java.util.TreeSet;
import java.util.function.IntBinaryOperator;

/**
 * A second reading of the document, plainer and slower than the program and in other ways: texts are trees,
 * walls are copied for each thought, kinds are looked up in tables, errors are exceptions.
 */
final class Model {
    private static final int[] ABOVE = {-1, 0, 0, 0, 1, 2, 3};

    /** An act's ERROR LOW - k. */
    private static final class Refused extends RuntimeException {
        private static final long serialVersionUID = 1;
        final int k;

        Refused(int k) {
            super(null, null, false, false);
            this.k = k;
        }
    }

    private static final class Fault extends RuntimeException {
        private static final long serialVersionUID = 1;
        final int place;

        Fault(int place) {
            super(null, null, false, false);
            this.place = place;
        }
    }

    interface Tree {
        int of(int a, int b, int c);
    }

    private record Hand(int kind, int m) {
    }

    private static final class Paper {
        int rows = 4;
        int columns = 4;
        // by row * 10 + column
        TreeMap<Integer, Integer> air = new TreeMap<>();
        TreeMap<Integer, Integer> paste = new TreeMap<>();
        TreeSet<Integer> open = new TreeSet<>();
        int holes;
        int out;
        int night;

        Paper() {
            hang(4, 4);
        }

        void hang(int r, int c) {
            rows = r;
            columns = c;
            air.clear();
            paste.clear();
            for (int i = 0; i < r; i++) {
                for (int j = 0; j < c; j++) {
                    air.put(i * 10 + j, 0);
                    paste.put(i * 10 + j, 5);
                }
            }
        }

        Paper again() {
            Paper p = new Paper();
            p.rows = rows;
            p.columns = columns;
            p.air = new TreeMap<>(air);
            p.paste = new TreeMap<>(paste);
            p.open = new TreeSet<>(open);
            p.holes = holes;
            p.out = out;
            p.night = night;
            return p;
        }

        int at(int cell) {
            return cell / columns * 10 + cell % columns;
        }

        List<Integer> airs() {
            return new ArrayList<>(air.values());
        }

        int all() {
            return air.values().stream().mapToInt(v -> v).sum();
        }

        void night() {
            for (int at : air.keySet()) {
                air.put(at, Math.max(0, air.get(at) - paste.get(at)));
                paste.put(at, Math.max(0, paste.get(at) - 1));
            }
            night++;
        }

        void lose(int much) {
            out = Math.min(99999, out + much);
        }
    }

    /** What an image keeps. */
    private static final class Kept {
        Paper paper = new Paper();
        List<Hand> hands = new ArrayList<>();
        String tape = "";
        Tree[] texts = new Tree[2];
        int z = 1;
        List<Integer> waiting = new ArrayList<>();

        Kept again() {
            Kept k = new Kept();
            k.paper = paper.again();
            k.hands = new ArrayList<>(hands);
            k.tape = tape;
            k.texts = texts.clone();
            k.z = z;
            k.waiting = new ArrayList<>(waiting);
            return k;
        }
    }

    private Kept now = new Kept();
    private Kept image;
    private int images;
    private final int[][] sheets = new int[4][];
    private final int[] bits = new int[4];
    private final int[] told = new int[6];
    private List<Integer> trace = new ArrayList<>();

    // ---- errors

    interface Act {
        int answer();
    }

    private int act(Act act) {
        try {
            return act.answer();
        } catch (Refused refused) {
            told[refused.k]++;
            return -1000000000 - refused.k;
        }
    }

    private static void ask(boolean fine, int k) {
        if (!fine) {
            throw new Refused(k);
        }
    }

    private static void beyond(int v, int least, int most) {
        ask(v >= least && v <= most, 1);
    }

    private void cell(int cell) {
        beyond(cell, 0, now.paper.air.size() - 1);
    }

    private void hand(int tool) {
        beyond(tool, 0, now.hands.size() - 1);
    }

    // ---- laws

    private int law(int use, int a, int b, int c) {
        Tree text = now.texts[use];
        int v = text != null ? text.of(a, b, c) : use == 0 ? a / 2 : a;
        return v < 0 ? 0 : v > 99 ? 99 : v;
    }

    private final class Reader {
        final String tape;
        final String names;
        int i;

        Reader(String tape, String names) {
            this.tape = tape;
            this.names = names;
        }

        int next() {
            return i < tape.length() ? tape.charAt(i) : -1;
        }

        Tree whole() {
            Tree t = level(0, 0);
            if (i < tape.length()) {
                throw new Fault(i);
            }
            return t;
        }

        Tree level(int level, int open) {
            String[] signs = {"|", "&", "<=>", "+-", "*/%"};
            if (level == signs.length) {
                return q(open);
            }
            Tree left = level(level + 1, open);
            while (next() >= 0 && signs[level].indexOf(next()) >= 0) {
                int sign = next();
                i++;
                left = joined(sign, left, level(level + 1, open));
                if (level == 2) {
                    break;
                }
            }
            return left;
        }

        Tree q(int open) {
            int b = next();
            if (b >= 0 && names.indexOf(b) >= 0) {
                i++;
                int which = names.indexOf(b);
                return (x, y, w) -> new int[] {x, y, w}[which];
            }
            if (b >= '0' && b <= '9') {
                int from = i;
                while (i < from + 4 && next() >= '0' && next() <= '9') {
                    i++;
                }
                int number = Integer.parseInt(tape.substring(from, i));
                return (x, y, w) -> number;
            }
            if (b != '!' && b != '(' || open == 5) {
                throw new Fault(i);
            }
            i++;
            if (b == '!') {
                Tree of = q(open + 1);
                return (x, y, w) -> of.of(x, y, w) == 0 ? 1 : 0;
            }
            Tree of = level(0, open + 1);
            if (next() != ')') {
                throw new Fault(i);
            }
            i++;
            return of;
        }

        Tree joined(int sign, Tree left, Tree right) {
            IntBinaryOperator by = switch (sign) {
                case '|' -> (l, r) -> l == 0 && r == 0 ? 0 : 1;
                case '&' -> (l, r) -> l == 0 || r == 0 ? 0 : 1;
                case '<' -> (l, r) -> l < r ? 1 : 0;
                case '=' -> (l, r) -> l == r ? 1 : 0;
                case '>' -> (l, r) -> l > r ? 1 : 0;
                case '+' -> (l, r) -> (int) ((long) l + r);
                case '-' -> (l, r) -> (int) ((long) l - r);
                case '*' -> (l, r) -> (int) ((long) l * r);
                case '/' -> (l, r) -> r == 0 ? 0 : (int) ((long) l / r);
                default -> (l, r) -> r == 0 ? 0 : (int) ((long) l % r);
            };
            return (x, y, w) -> by.applyAsInt(left.of(x, y, w), right.of(x, y, w));
        }
    }

    // ---- kinds

    private int moves(int kind, int m, int a, int v) {
        switch (kind) {
            case 0: return v;
            case 1: return v + 1;
            case 2: return 0;
            case 3: return a;
            case 4: return moves(1, m, a, v) / 2;
            case 6: return Math.max(0, moves(3, m, a, v) - m);
            default: return moves(ABOVE[kind], m, a, v);
        }
    }

    private int reach(int kind, int m) {
        switch (kind) {
            case 0: return 1;
            case 3: return 2;
            case 6: return reach(3, m) + m % 3;
            default: return reach(ABOVE[kind], m);
        }
    }

    private int lets(int kind, int m, int a) {
        switch (kind) {
            case 0: return 0;
            case 2: return m + 1;
            case 5: return a;
            default: return lets(ABOVE[kind], m, a);
        }
    }

    private int tears(int kind, int paste) {
        switch (kind) {
            case 0: return 0;
            case 2: return paste < 3 ? 1 : 0;
            case 5: return tears(2, paste) + 1;
            case 6: return paste > 7 ? 1 : 0;
            default: return tears(ABOVE[kind], paste);
        }
    }

    private void strike(Paper p, Hand h, int cell, int way) {
        int at = p.at(cell);
        int gone = Math.min(p.air.get(at), lets(h.kind, h.m, p.air.get(at)));
        p.air.merge(at, -gone, Integer::sum);
        p.lose(gone);
        p.holes = Math.min(99999, p.holes + tears(h.kind, p.paste.get(at)));
        for (int i = 0; i < reach(h.kind, h.m); i++) {
            int a = p.air.get(at);
            int moved = Math.min(a, moves(h.kind, h.m, a, law(0, a, p.paste.get(at), h.m)));
            int next = at + new int[] {-10, 1, 10, -1}[way];
            if (p.air.containsKey(next)) {
                p.air.put(at, a - moved);
                int there = p.air.get(next) + moved;
                p.air.put(next, there > 99 ? 99 : there);
                p.lose(there > 99 ? there - 99 : 0);
                at = next;
            } else {
                if (p.open.contains(way)) {
                    p.air.put(at, a - moved);
                    p.lose(moved);
                }
                break;
            }
        }
    }

    private Paper struck(Paper from, Hand h, int cell, int way) {
        Paper p = from.again();
        strike(p, h, cell, way);
        return p;
    }

    private int shown(Paper p) {
        int all = 0;
        for (int at : p.air.keySet()) {
            all += law(1, p.air.get(at), at / 10, at % 10);
        }
        return all;
    }

    /** A bubble a list of places, the least first; the bubbles by their least places. */
    private List<TreeSet<Integer>> bubblesOf(Paper p) {
        List<TreeSet<Integer>> all = new ArrayList<>();
        for (int at : p.air.keySet()) {
            if (p.air.get(at) == 0) {
                continue;
            }
            TreeSet<Integer> one = new TreeSet<>(List.of(at));
            List<TreeSet<Integer>> others = new ArrayList<>();
            for (TreeSet<Integer> known : all) {
                if (known.contains(at - 10) || known.contains(at - 1)) {
                    one.addAll(known);
                } else {
                    others.add(known);
                }
            }
            others.add(one);
            all = others;
        }
        all.sort((x, y) -> x.first() - y.first());
        return all;
    }

    private int size(Paper p, TreeSet<Integer> bubble) {
        return bubble.stream().mapToInt(p.air::get).sum();
    }

    private int gone(int air, int paste) {
        Paper p = new Paper();
        p.air.put(0, air);
        p.paste.put(0, paste);
        for (int n = 0; n <= 30; n++) {
            if (p.air.get(0) == 0) {
                return n;
            }
            p.night();
        }
        return 31;
    }

    // ---- the face

    int wall(int rows, int columns) {
        return act(() -> {
            beyond(rows, 1, 5);
            beyond(columns, 1, 5);
            now.paper.hang(rows, columns);
            return rows * columns;
        });
    }

    int set(int cell, int what, int v) {
        return act(() -> {
            cell(cell);
            beyond(what, 0, 1);
            beyond(v, 0, what == 0 ? 99 : 9);
            return (what == 0 ? now.paper.air : now.paper.paste).put(now.paper.at(cell), v);
        });
    }

    int ofCell(int cell, int what) {
        return act(() -> {
            cell(cell);
            beyond(what, 0, 3);
            Paper p = now.paper;
            int at = p.at(cell);
            if (what == 3) {
                return bubblesOf(p).stream().filter(b -> b.contains(at)).mapToInt(b -> size(p, b)).sum();
            }
            return what == 0 ? p.air.get(at) : what == 1 ? p.paste.get(at) : law(1, p.air.get(at), at / 10, at % 10);
        });
    }

    int edge(int way, int v) {
        return act(() -> {
            beyond(way, 0, 3);
            beyond(v, 0, 1);
            boolean was = v == 1 ? !now.paper.open.add(way) : now.paper.open.remove(way);
            return was ? 1 : 0;
        });
    }

    int tool(int km) {
        return act(() -> {
            beyond(km, 0, 69);
            ask(now.hands.size() < 6, 4);
            now.hands.add(new Hand(km / 10, km % 10));
            return now.hands.size() - 1;
        });
    }

    int ofTool(int tool, int what) {
        return act(() -> {
            hand(tool);
            beyond(what, 0, 6);
            Hand h = now.hands.get(tool);
            int[] all = {h.kind, h.m, reach(h.kind, h.m),
                Math.min(20, moves(h.kind, h.m, 20, law(0, 20, 5, h.m))), Math.min(20, lets(h.kind, h.m, 20)),
                tears(h.kind, 0), tears(h.kind, 9)};
            return all[what];
        });
    }

    int become(int tool, int km) {
        return act(() -> {
            hand(tool);
            beyond(km, 0, 69);
            return now.hands.set(tool, new Hand(km / 10, km % 10)).kind;
        });
    }

    int as(int tool, int kind) {
        return act(() -> {
            hand(tool);
            beyond(kind, 0, 6);
            int is = now.hands.get(tool).kind;
            while (is != kind) {
                is = ABOVE[is];
                ask(is >= 0, 5);
            }
            return now.hands.get(tool).m;
        });
    }

    int feed(long word, int n) {
        return act(() -> {
            beyond(n, 1, 8);
            ask(now.tape.length() + n <= 50, 4);
            long left = word;
            for (int i = 0; i < n; i++) {
                now.tape += (char) (left & 255);
                left >>= 8;
            }
            return now.tape.length();
        });
    }

    int text(int use) {
        return act(() -> {
            beyond(use, 0, 1);
            Reader reader = new Reader(now.tape, use == 0 ? "apm" : "arc");
            now.tape = "";
            try {
                now.texts[use] = reader.whole();
                return 1;
            } catch (Fault fault) {
                return -10 - fault.place;
            }
        });
    }

    int lawOf(int use, int a, int b, int c) {
        return act(() -> {
            beyond(use, 0, 1);
            return law(use, a, b, c);
        });
    }

    int stroke(int tool, int cell, int way) {
        return act(() -> {
            hand(tool);
            cell(cell);
            beyond(way, 0, 3);
            strike(now.paper, now.hands.get(tool), cell, way);
            return now.paper.airs().get(cell);
        });
    }

    int nights(int n) {
        return act(() -> {
            beyond(n, 1, 30);
            ask(now.paper.night + n <= 999, 3);
            for (int i = 0; i < n; i++) {
                now.paper.night();
            }
            return now.paper.all();
        });
    }

    private int draw(int many) {
        now.z = (int) (now.z * 1103515245L + 12345L);
        return (int) ((now.z & 0xFFFFFFFFL) / 256 % many);
    }

    int days(int n) {
        return act(() -> {
            beyond(n, 1, 30);
            ask(now.paper.night + n <= 999, 3);
            ask(!now.hands.isEmpty(), 3);
            for (int i = 0; i < n; i++) {
                Hand h = now.hands.get(draw(now.hands.size()));
                int cell = draw(now.paper.air.size());
                strike(now.paper, h, cell, draw(4));
                now.paper.night();
            }
            return now.paper.all();
        });
    }

    int shown() {
        return shown(now.paper);
    }

    int bubbles() {
        return bubblesOf(now.paper).size();
    }

    int biggest(int what) {
        return act(() -> {
            beyond(what, 0, 1);
            List<TreeSet<Integer>> all = bubblesOf(now.paper);
            ask(!all.isEmpty(), 2);
            TreeSet<Integer> most = all.get(0);
            for (TreeSet<Integer> one : all) {
                most = size(now.paper, one) > size(now.paper, most) ? one : most;
            }
            return what == 0 ? size(now.paper, most) : most.first() / 10 * now.paper.columns + most.first() % 10;
        });
    }

    int wayOut(int cell) {
        return act(() -> {
            cell(cell);
            Paper p = now.paper;
            ask(!p.open.isEmpty(), 2);
            TreeSet<Integer> reached = new TreeSet<>(List.of(p.at(cell)));
            for (int far = 0; ; far++) {
                TreeSet<Integer> next = new TreeSet<>(reached);
                for (int at : reached) {
                    for (int way = 0; way < 4; way++) {
                        int beside = at + new int[] {-10, 1, 10, -1}[way];
                        if (p.air.containsKey(beside)) {
                            next.add(beside);
                        } else if (p.open.contains(way)) {
                            return far;
                        }
                    }
                }
                reached = next;
            }
        });
    }

    int best(int tool, int what) {
        return act(() -> {
            hand(tool);
            beyond(what, 0, 1);
            return bestOf(now.paper, now.hands.get(tool))[what];
        });
    }

    private int[] bestOf(Paper from, Hand h) {
        int[] best = {-1, Integer.MAX_VALUE};
        for (int cell = 0; cell < from.air.size(); cell++) {
            for (int way = 0; way < 4; way++) {
                int shown = shown(struck(from, h, cell, way));
                if (shown < best[1]) {
                    best = new int[] {10 * cell + way, shown};
                }
            }
        }
        return best;
    }

    int bestTwo(int tool, int what) {
        return act(() -> {
            hand(tool);
            beyond(what, 0, 1);
            Hand h = now.hands.get(tool);
            int[] best = {-1, Integer.MAX_VALUE};
            for (int cell = 0; cell < now.paper.air.size(); cell++) {
                for (int way = 0; way < 4; way++) {
                    int shown = bestOf(struck(now.paper, h, cell, way), h)[1];
                    if (shown < best[1]) {
                        best = new int[] {10 * cell + way, shown};
                    }
                }
            }
            return best[what];
        });
    }

    int goneBy(int cell) {
        return act(() -> {
            cell(cell);
            int at = now.paper.at(cell);
            int nights = gone(now.paper.air.get(at), now.paper.paste.get(at));
            ask(nights <= 30, 2);
            return nights;
        });
    }

    int never() {
        Paper p = now.paper.again();
        for (int i = 0; i < 30; i++) {
            p.night();
        }
        return (int) p.air.values().stream().filter(a -> a > 0).count();
    }

    int needs(int cell, int n) {
        return act(() -> {
            cell(cell);
            beyond(n, 0, 30);
            int paste = 0;
            while (gone(now.paper.air.get(now.paper.at(cell)), paste) > n) {
                paste++;
                ask(paste <= 9, 2);
            }
            return paste;
        });
    }

    int lamp(int way) {
        return act(() -> {
            beyond(way, 0, 3);
            Paper p = now.paper;
            int many = 0;
            for (int line = 0; line < 5; line++) {
                int most = 0;
                for (int step = 0; step < 5; step++) {
                    int row = way == 0 ? step : way == 2 ? p.rows - 1 - step : line;
                    int column = way == 3 ? step : way == 1 ? p.columns - 1 - step : line;
                    if (row < 0 || column < 0 || row >= p.rows || column >= p.columns) {
                        continue;
                    }
                    int a = p.air.get(row * 10 + column);
                    many += a > most ? 1 : 0;
                    most = Math.max(most, a);
                }
            }
            return many;
        });
    }

    int came(int tool, int cell, int way, int sheet) {
        return act(() -> {
            hand(tool);
            cell(cell);
            beyond(way, 0, 3);
            beyond(sheet, 0, 3);
            ask(sheets[sheet] != null && sheets[sheet].length == now.paper.air.size(), 2);
            List<Integer> wanted = new ArrayList<>();
            for (int v : sheets[sheet]) {
                wanted.add(v);
            }
            for (int kind = 0; kind < 7; kind++) {
                if (struck(now.paper, new Hand(kind, now.hands.get(tool).m), cell, way).airs().equals(wanted)) {
                    return kind;
                }
            }
            throw new Refused(2);
        });
    }

    int odds(int tool, int cell, int v, int part) {
        return act(() -> {
            hand(tool);
            cell(cell);
            beyond(v, 0, 9999);
            beyond(part, 0, 1);
            int many = 0;
            for (int way = 0; way < 4; way++) {
                many += shown(struck(now.paper, now.hands.get(tool), cell, way)) <= v ? 1 : 0;
            }
            String[] fractions = {"01", "14", "12", "34", "11"};
            return fractions[many].charAt(part) - '0';
        });
    }

    int seed(int v) {
        int was = now.z;
        now.z = v;
        return was;
    }

    /** The rows: a body's number for each kind (-1: none of its own), moves, lets, tears, tells. */
    private static final int[][] BODIES = {{10, 11, 12, 13}, {20, -1, -1, -1}, {-1, 30, -1, -1}, {-1, -1, 40, -1},
        {-1, -1, -1, 50}, {-1, 60, -1, -1}, {-1, -1, 70, 71}};

    private int say(int kind, int from, int act, int x, int n, int m) {
        int at = from;
        while (BODIES[at][act] < 0) {
            at = ABOVE[at];
        }
        int body = BODIES[at][act];
        trace.add(body);
        int up = ABOVE[at];
        int left;
        switch (body) {
            case 10: return x + n;
            case 11: return say(kind, kind, 0, x, n, m) * 2;
            case 12: return x - m;
            case 13:
                left = say(kind, kind, 1, x, n, m);
                return left ^ say(kind, kind, 2, x, n, m);
            case 20: return say(kind, up, 0, x, n, m) * 3;
            case 30:
                left = say(kind, up, 1, x, n, m);
                return left - say(kind, kind, 2, 1, n, m);
            case 40: return -say(kind, up, 2, x, n, m);
            case 50:
                left = say(kind, up, 3, x, n, m);
                return left - say(kind, kind, 0, 2, n, m);
            case 60: return say(kind, up, 1, x + 1, n, m);
            case 70: return say(kind, up, 2, x, n, m) ^ n;
            default:
                left = say(kind, kind, 1, x, n, m);
                return left - say(kind, up, 3, x, n, m);
        }
    }

    int voice(int tool, int act, int x) {
        return act(() -> {
            hand(tool);
            beyond(act, 0, 3);
            trace = new ArrayList<>();
            Hand h = now.hands.get(tool);
            return say(h.kind, h.kind, act, x, tool, h.m);
        });
    }

    int trace(int i) {
        return act(() -> {
            ask(i >= 0 && i < Math.min(40, trace.size()), 2);
            return trace.get(i);
        });
    }

    int sheet(int sheet, int b, int n) {
        return act(() -> {
            beyond(sheet, 0, 3);
            ask(List.of(0, 8, 16, 32).contains(b), 1);
            if (b == 0) {
                sheets[sheet] = null;
                return 1;
            }
            ask(n >= 0, 3);
            ask(n <= 40, 1);
            sheets[sheet] = new int[n];
            bits[sheet] = b;
            return 1;
        });
    }

    private void there(int sheet) {
        ask(sheets[sheet] != null, 2);
    }

    int put(int sheet, int i, int v) {
        return act(() -> {
            beyond(sheet, 0, 3);
            there(sheet);
            beyond(i, 0, sheets[sheet].length - 1);
            sheets[sheet][i] = (int) (v & (1L << bits[sheet]) - 1);
            return 1;
        });
    }

    int move(int sheet, int i, int other, int j, int n) {
        return act(() -> {
            beyond(sheet, 0, 3);
            beyond(other, 0, 3);
            there(sheet);
            there(other);
            ask(bits[sheet] == bits[other], 5);
            ask(n >= 0 && i >= 0 && j >= 0, 1);
            ask((long) i + n <= sheets[sheet].length && (long) j + n <= sheets[other].length, 1);
            int[] as = sheets[sheet].clone();
            for (int k = 0; k < n; k++) {
                sheets[other][j + k] = as[i + k];
            }
            return n;
        });
    }

    int airs(int sheet) {
        return act(() -> {
            beyond(sheet, 0, 3);
            there(sheet);
            int many = 0;
            for (int v : sheets[sheet]) {
                if (v < 0 || v > 99 || many == now.paper.air.size()) {
                    return many;
                }
                now.paper.air.put(now.paper.at(many), v);
                many++;
            }
            return many;
        });
    }

    int judge(int sheet) {
        return act(() -> {
            beyond(sheet, 0, 3);
            there(sheet);
            int[] airs = now.paper.airs().stream().mapToInt(v -> v).toArray();
            return Arrays.mismatch(airs, sheets[sheet]);
        });
    }

    int image() {
        image = now.again();
        return ++images;
    }

    int restore() {
        return act(() -> {
            ask(image != null, 2);
            now = image.again();
            return now.paper.night;
        });
    }

    int tell(int v) {
        return act(() -> {
            ask(now.waiting.size() < 20, 4);
            now.waiting.add(v);
            return now.waiting.size();
        });
    }

    int check() {
        Paper p = now.paper.again();
        List<Integer> all = now.waiting;
        now.waiting = new ArrayList<>();
        for (int i = 0; i < all.size(); i++) {
            p.night();
            if (p.all() != all.get(i)) {
                return 1 + i;
            }
        }
        return 0;
    }

    int count(int what) {
        return act(() -> {
            beyond(what, 0, 11);
            Paper p = now.paper;
            int bitsOpen = p.open.stream().mapToInt(way -> 1 << way).sum();
            int[] all = {p.air.size(), now.hands.size(), p.all(), p.holes, p.out, p.night,
                (int) p.air.values().stream().filter(a -> a > 0).count(), bitsOpen, now.tape.length(),
                now.waiting.size(), Math.min(40, trace.size()), now.z};
            return all[what];
        });
    }

    int told(int k) {
        return act(() -> {
            beyond(k, 1, 5);
            return told[k];
        });
    }
}
