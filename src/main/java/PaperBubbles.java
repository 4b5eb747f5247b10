import java.util.Arrays;

/** A papered wall with air under it, and the tools that stroke the air out; ../shared/DOC.md tells the promises. */
public final class PaperBubbles {
    private static final int LOW = -1000000000;
    private static final int BEYOND = 1;
    private static final int NONE = 2;
    private static final int STATE = 3;
    private static final int FULL = 4;
    private static final int KIND = 5;

    private static final int FIRST_SIDE = 4;
    private static final int MOST_SIDE = 5;
    private static final int MOST_CELLS = MOST_SIDE * MOST_SIDE;
    private static final int WAYS = 4;
    private static final int NORTH = 0;
    private static final int EAST = 1;
    private static final int SOUTH = 2;
    private static final int MOST_AIR = 99;
    private static final int FIRST_PASTE = 5;
    private static final int MOST_PASTE = 9;
    private static final int MOST_OUT = 99999;
    private static final int MOST_NIGHT = 999;
    private static final int MOST_NIGHTS = 30;

    private static final int MOST_TOOLS = 6;
    private static final int KINDS = 7;
    private static final int MOST_KM = 69;
    private static final int SAMPLE_AIR = 20;
    private static final int MOST_ODDS = 9999;
    // SHOWN times this and the stroke's place make one number: the least of them is the least SHOWN's least place.
    private static final int PLACES = 1000;

    private static final int MOVED = 0;
    private static final int SEEN = 1;
    private static final int MOST_TAPE = 50;
    private static final int MOST_OPEN = 5;
    private static final int MOST_DIGITS = 4;
    private static final int WORD_BYTES = 8;
    private static final int FAULT_BASE = -10;

    private static final int MOST_BODIES = 40;
    private static final int SHEETS = 4;
    private static final int MOST_NUMBERS = 40;
    private static final int MOST_WAITING = 20;

    private final State now = new State(true);
    private final State kept = new State(false);
    private int images;
    private final Tool[] kinds = {
        new Tool(), new Brush(), new Needle(), new Roller(), new Soft(), new Knife(), new Hard()};
    private final Voice voice = new Voice();
    private final Wall thought = new Wall();
    private final Wall further = new Wall();
    private final int[] errors = new int[KIND + 1];
    private final int[] sheetBits = new int[SHEETS];
    private final int[] sheetLength = new int[SHEETS];
    private final int[][] numbers = new int[SHEETS][MOST_NUMBERS];

    public PaperBubbles() {
    }

    // ---- the wall, tools

    public int wall(int rows, int columns) {
        if (!within(rows, 1, MOST_SIDE) || !within(columns, 1, MOST_SIDE)) {
            return error(BEYOND);
        }
        now.wall.lay(rows, columns);
        return now.wall.cells();
    }

    public int set(int cell, int what, int v) {
        if (!isCell(cell) || !within(what, 0, 1) || !within(v, 0, what == 0 ? MOST_AIR : MOST_PASTE)) {
            return error(BEYOND);
        }
        int[] row = what == 0 ? now.wall.air : now.wall.paste;
        int was = row[cell];
        row[cell] = v;
        return was;
    }

    public int ofCell(int cell, int what) {
        if (!isCell(cell)) {
            return error(BEYOND);
        }
        switch (what) {
            case 0:
                return now.wall.air[cell];
            case 1:
                return now.wall.paste[cell];
            case 2:
                return now.seen.gives(now.wall.air[cell], now.wall.rowOf(cell), now.wall.columnOf(cell));
            case 3:
                return now.wall.sizeOfBubble(cell);
            default:
                return error(BEYOND);
        }
    }

    public int edge(int way, int v) {
        if (!isWay(way) || !within(v, 0, 1)) {
            return error(BEYOND);
        }
        int was = now.wall.open[way];
        now.wall.open[way] = v;
        return was;
    }

    public int tool(int km) {
        if (!within(km, 0, MOST_KM)) {
            return error(BEYOND);
        }
        int number = now.tools;
        if (!within(number, 0, MOST_TOOLS - 1)) {
            return error(FULL);
        }
        now.kind[number] = km / 10;
        now.m[number] = km % 10;
        now.tools = number + 1;
        return number;
    }

    public int ofTool(int tool, int what) {
        if (!isTool(tool)) {
            return error(BEYOND);
        }
        Tool kind = kindOf(tool);
        int m = now.m[tool];
        switch (what) {
            case 0:
                return now.kind[tool];
            case 1:
                return m;
            case 2:
                return kind.reach(m);
            case 3:
                int v = now.moved.gives(SAMPLE_AIR, FIRST_PASTE, m);
                return Math.min(SAMPLE_AIR, kind.moves(SAMPLE_AIR, v, m));
            case 4:
                return Math.min(SAMPLE_AIR, kind.lets(SAMPLE_AIR, m));
            case 5:
                return kind.tears(0);
            case 6:
                return kind.tears(MOST_PASTE);
            default:
                return error(BEYOND);
        }
    }

    public int become(int tool, int km) {
        if (!isTool(tool) || !within(km, 0, MOST_KM)) {
            return error(BEYOND);
        }
        int was = now.kind[tool];
        now.kind[tool] = km / 10;
        now.m[tool] = km % 10;
        return was;
    }

    public int as(int tool, int kind) {
        if (!isTool(tool) || !within(kind, 0, KINDS - 1)) {
            return error(BEYOND);
        }
        if (!kindOf(tool).isA(kind)) {
            return error(KIND);
        }
        return now.m[tool];
    }

    // ---- texts

    public int feed(long word, int n) {
        if (!within(n, 1, WORD_BYTES)) {
            return error(BEYOND);
        }
        if (now.tapeLength > MOST_TAPE - n) {
            return error(FULL);
        }
        for (int i = 0; i < n; i++) {
            now.addByte((int) (word >>> (8 * i)) & 255);
        }
        return now.tapeLength;
    }

    public int text(int use) {
        if (!isUse(use)) {
            return error(BEYOND);
        }
        int fault = lawOf(use).read(now.tape, now.tapeLength);
        now.tapeLength = 0;
        return fault < 0 ? 1 : FAULT_BASE - fault;
    }

    public int law(int use, int a, int b, int c) {
        if (!isUse(use)) {
            return error(BEYOND);
        }
        return lawOf(use).gives(a, b, c);
    }

    // ---- strokes, nights

    public int stroke(int tool, int cell, int way) {
        if (!isTool(tool) || !isCell(cell) || !isWay(way)) {
            return error(BEYOND);
        }
        now.wall.strike(kindOf(tool), now.m[tool], now.moved, cell, way);
        return now.wall.air[cell];
    }

    public int nights(int n) {
        if (!within(n, 1, MOST_NIGHTS)) {
            return error(BEYOND);
        }
        if (now.wall.night > MOST_NIGHT - n) {
            return error(STATE);
        }
        for (int i = 0; i < n; i++) {
            now.wall.passNight();
        }
        return now.wall.allAir();
    }

    public int days(int n) {
        if (!within(n, 1, MOST_NIGHTS)) {
            return error(BEYOND);
        }
        if (now.wall.night > MOST_NIGHT - n || now.tools == 0) {
            return error(STATE);
        }
        for (int i = 0; i < n; i++) {
            int tool = now.draw(now.tools);
            int cell = now.draw(now.wall.cells());
            int way = now.draw(WAYS);
            now.wall.strike(kindOf(tool), now.m[tool], now.moved, cell, way);
            now.wall.passNight();
        }
        return now.wall.allAir();
    }

    // ---- what would be

    public int shown() {
        return now.wall.shownBy(now.seen);
    }

    public int bubbles() {
        return now.wall.countBubbles();
    }

    public int biggest(int what) {
        if (!within(what, 0, 1)) {
            return error(BEYOND);
        }
        int cell = now.wall.cellOfBiggest();
        if (cell < 0) {
            return error(NONE);
        }
        return what == 0 ? now.wall.sizeOfBubble(cell) : cell;
    }

    public int wayOut(int cell) {
        if (!isCell(cell)) {
            return error(BEYOND);
        }
        int least = MOST_CELLS;
        for (int way = 0; way < WAYS; way++) {
            if (now.wall.isOpen(way)) {
                least = Math.min(least, now.wall.cellsAhead(cell, way));
            }
        }
        return least < MOST_CELLS ? least : error(NONE);
    }

    public int best(int tool, int what) {
        if (!isTool(tool) || !within(what, 0, 1)) {
            return error(BEYOND);
        }
        return partOfBest(bestFrom(now.wall, kindOf(tool), now.m[tool]), what);
    }

    public int bestTwo(int tool, int what) {
        if (!isTool(tool) || !within(what, 0, 1)) {
            return error(BEYOND);
        }
        Tool kind = kindOf(tool);
        int m = now.m[tool];
        int cells = now.wall.cells();
        int least = Integer.MAX_VALUE;
        for (int cell = 0; cell < cells; cell++) {
            for (int way = 0; way < WAYS; way++) {
                thought.copy(now.wall);
                thought.strike(kind, m, now.moved, cell, way);
                int shown = partOfBest(bestFrom(thought, kind, m), 1);
                least = Math.min(least, shown * PLACES + 10 * cell + way);
            }
        }
        return partOfBest(least, what);
    }

    public int goneBy(int cell) {
        if (!isCell(cell)) {
            return error(BEYOND);
        }
        int nights = nightsToGo(now.wall.air[cell], now.wall.paste[cell]);
        return nights <= MOST_NIGHTS ? nights : error(NONE);
    }

    public int never() {
        int many = 0;
        int cells = now.wall.cells();
        for (int cell = 0; cell < cells; cell++) {
            if (nightsToGo(now.wall.air[cell], now.wall.paste[cell]) > MOST_NIGHTS) {
                many++;
            }
        }
        return many;
    }

    public int needs(int cell, int n) {
        if (!isCell(cell) || !within(n, 0, MOST_NIGHTS)) {
            return error(BEYOND);
        }
        for (int paste = 0; paste <= MOST_PASTE; paste++) {
            if (nightsToGo(now.wall.air[cell], paste) <= n) {
                return paste;
            }
        }
        return error(NONE);
    }

    public int lamp(int way) {
        if (!isWay(way)) {
            return error(BEYOND);
        }
        int many = 0;
        int cells = now.wall.cells();
        for (int cell = 0; cell < cells; cell++) {
            if (now.wall.isLit(cell, way)) {
                many++;
            }
        }
        return many;
    }

    public int came(int tool, int cell, int way, int sheet) {
        if (!isTool(tool) || !isCell(cell) || !isWay(way) || !isSheet(sheet)) {
            return error(BEYOND);
        }
        if (isMissing(sheet)) {
            return error(NONE);
        }
        for (int kind = 0; kind < KINDS; kind++) {
            thought.copy(now.wall);
            thought.strike(kindAt(kind), now.m[tool], now.moved, cell, way);
            if (firstUnlike(sheet, thought) < 0) {
                return kind;
            }
        }
        return error(NONE);
    }

    public int odds(int tool, int cell, int v, int part) {
        if (!isTool(tool) || !isCell(cell) || !within(v, 0, MOST_ODDS) || !within(part, 0, 1)) {
            return error(BEYOND);
        }
        int above = 0;
        for (int way = 0; way < WAYS; way++) {
            thought.copy(now.wall);
            thought.strike(kindOf(tool), now.m[tool], now.moved, cell, way);
            if (thought.shownBy(now.seen) <= v) {
                above++;
            }
        }
        int below = WAYS;
        for (int i = 0; i < WAYS && above % 2 == 0 && below % 2 == 0; i++) {
            above /= 2;
            below /= 2;
        }
        return part == 0 ? above : below;
    }

    // ---- draws, voices, sheets, images, what is told

    public int seed(int v) {
        int was = now.z;
        now.z = v;
        return was;
    }

    public int voice(int tool, int act, int x) {
        if (!isTool(tool) || !within(act, 0, 3)) {
            return error(BEYOND);
        }
        voice.start(tool, now.m[tool]);
        Tool kind = kindOf(tool);
        switch (act) {
            case 0:
                return kind.sayMoves(x, voice);
            case 1:
                return kind.sayLets(x, voice);
            case 2:
                return kind.sayTears(x, voice);
            default:
                return kind.sayTells(x, voice);
        }
    }

    public int trace(int i) {
        return within(i, 0, voice.length - 1) && i < MOST_BODIES ? voice.bodies[i] : error(NONE);
    }

    public int sheet(int sheet, int bits, int n) {
        if (!isSheet(sheet) || bits != 0 && bits != 8 && bits != 16 && bits != 32) {
            return error(BEYOND);
        }
        if (bits != 0 && n < 0) {
            return error(STATE);
        }
        if (bits != 0 && n > MOST_NUMBERS) {
            return error(BEYOND);
        }
        sheetBits[sheet] = bits;
        sheetLength[sheet] = bits == 0 ? 0 : n;
        Arrays.fill(numbers[sheet], 0);
        return 1;
    }

    public int put(int sheet, int i, int v) {
        if (!isSheet(sheet)) {
            return error(BEYOND);
        }
        if (isMissing(sheet)) {
            return error(NONE);
        }
        if (!within(i, 0, sheetLength[sheet] - 1)) {
            return error(BEYOND);
        }
        int spare = 32 - sheetBits[sheet];
        numbers[sheet][i] = v << spare >>> spare;
        return 1;
    }

    public int move(int sheet, int i, int other, int j, int n) {
        if (!isSheet(sheet) || !isSheet(other)) {
            return error(BEYOND);
        }
        if (isMissing(sheet) || isMissing(other)) {
            return error(NONE);
        }
        if (sheetBits[sheet] != sheetBits[other]) {
            return error(KIND);
        }
        if (!standsOn(sheet, i, n) || !standsOn(other, j, n)) {
            return error(BEYOND);
        }
        System.arraycopy(numbers[sheet], i, numbers[other], j, n);
        return n;
    }

    public int airs(int sheet) {
        if (!isSheet(sheet)) {
            return error(BEYOND);
        }
        if (isMissing(sheet)) {
            return error(NONE);
        }
        int most = Math.min(sheetLength[sheet], now.wall.cells());
        int i = 0;
        while (i < most && within(numbers[sheet][i], 0, MOST_AIR)) {
            now.wall.air[i] = numbers[sheet][i];
            i++;
        }
        return i;
    }

    public int judge(int sheet) {
        if (!isSheet(sheet)) {
            return error(BEYOND);
        }
        if (isMissing(sheet)) {
            return error(NONE);
        }
        return firstUnlike(sheet, now.wall);
    }

    public int image() {
        kept.copy(now);
        images++;
        return images;
    }

    public int restore() {
        if (images == 0) {
            return error(NONE);
        }
        now.copy(kept);
        return now.wall.night;
    }

    public int tell(int v) {
        if (!within(now.waiting, 0, MOST_WAITING - 1)) {
            return error(FULL);
        }
        now.told[now.waiting] = v;
        now.waiting++;
        return now.waiting;
    }

    public int check() {
        int many = now.waiting;
        now.waiting = 0;
        thought.copy(now.wall);
        for (int place = 0; place < many && place < MOST_WAITING; place++) {
            thought.passNight();
            if (now.told[place] != thought.allAir()) {
                return 1 + place;
            }
        }
        return 0;
    }

    public int count(int what) {
        switch (what) {
            case 0:
                return now.wall.cells();
            case 1:
                return now.tools;
            case 2:
                return now.wall.allAir();
            case 3:
                return now.wall.holes;
            case 4:
                return now.wall.out;
            case 5:
                return now.wall.night;
            case 6:
                return now.wall.cellsWithAir();
            case 7:
                return now.wall.openBits();
            case 8:
                return now.tapeLength;
            case 9:
                return now.waiting;
            case 10:
                return voice.length;
            case 11:
                return now.z;
            default:
                return error(BEYOND);
        }
    }

    public int told(int k) {
        return within(k, BEYOND, KIND) ? errors[k] : error(BEYOND);
    }

    private int error(int k) {
        if (within(k, BEYOND, KIND)) {
            errors[k]++;
        }
        return LOW - k;
    }

    private static boolean within(int v, int least, int most) {
        return v >= least && v <= most;
    }

    private boolean isCell(int cell) {
        return now.wall.has(cell);
    }

    private boolean isTool(int tool) {
        return within(tool, 0, now.tools - 1) && tool < MOST_TOOLS;
    }

    private static boolean isWay(int way) {
        return within(way, 0, WAYS - 1);
    }

    private static boolean isUse(int use) {
        return use == MOVED || use == SEEN;
    }

    private static boolean isSheet(int sheet) {
        return within(sheet, 0, SHEETS - 1);
    }

    private boolean isMissing(int sheet) {
        return sheetBits[sheet] == 0;
    }

    // Not i + n: that could wrap.
    private boolean standsOn(int sheet, int i, int n) {
        return n >= 0 && i >= 0 && n <= sheetLength[sheet] && i <= sheetLength[sheet] - n;
    }

    private int firstUnlike(int sheet, Wall wall) {
        int most = Math.max(sheetLength[sheet], wall.cells());
        for (int i = 0; i < most; i++) {
            if (i >= sheetLength[sheet] || !wall.has(i) || numbers[sheet][i] != wall.air[i]) {
                return i;
            }
        }
        return -1;
    }

    private Law lawOf(int use) {
        return use == MOVED ? now.moved : now.seen;
    }

    private Tool kindAt(int kind) {
        return within(kind, 0, KINDS - 1) ? kinds[kind] : kinds[0];
    }

    private Tool kindOf(int tool) {
        return kindAt(isTool(tool) ? now.kind[tool] : 0);
    }

    private int bestFrom(Wall from, Tool kind, int m) {
        int cells = from.cells();
        int least = Integer.MAX_VALUE;
        further.copy(from);
        for (int cell = 0; cell < cells; cell++) {
            for (int way = 0; way < WAYS; way++) {
                further.airAs(from);
                further.strike(kind, m, now.moved, cell, way);
                least = Math.min(least, further.shownBy(now.seen) * PLACES + 10 * cell + way);
            }
        }
        return least;
    }

    private static int partOfBest(int best, int what) {
        return what == 0 ? best % PLACES : best / PLACES;
    }

    private static int nightsToGo(int air, int paste) {
        int left = air;
        for (int night = 0; night <= MOST_NIGHTS; night++) {
            if (left <= 0) {
                return night;
            }
            left -= Math.max(0, paste - night);
        }
        return MOST_NIGHTS + 1;
    }

    /** All that an IMAGE keeps. */
    private static final class State {
        private final Wall wall = new Wall();
        private int tools;
        private final int[] kind = new int[MOST_TOOLS];
        private final int[] m = new int[MOST_TOOLS];
        private final int[] tape = new int[MOST_TAPE];
        private int tapeLength;
        private final Law moved;
        private final Law seen;
        private int z = 1;
        private final int[] told = new int[MOST_WAITING];
        private int waiting;

        State(boolean remembers) {
            moved = new Law(MOVED, remembers);
            seen = new Law(SEEN, remembers);
        }

        void copy(State other) {
            wall.copy(other.wall);
            tools = other.tools;
            System.arraycopy(other.kind, 0, kind, 0, MOST_TOOLS);
            System.arraycopy(other.m, 0, m, 0, MOST_TOOLS);
            System.arraycopy(other.tape, 0, tape, 0, MOST_TAPE);
            tapeLength = other.tapeLength;
            moved.copy(other.moved);
            seen.copy(other.seen);
            z = other.z;
            System.arraycopy(other.told, 0, told, 0, MOST_WAITING);
            waiting = other.waiting;
        }

        void addByte(int b) {
            if (within(tapeLength, 0, MOST_TAPE - 1)) {
                tape[tapeLength] = b;
                tapeLength++;
            }
        }

        int draw(int many) {
            z = z * 1103515245 + 12345;
            return many > 0 ? (z >>> 8) % many : 0;
        }
    }

    /** THE WALL, or one that is only thought. */
    private static final class Wall {
        private int rows = FIRST_SIDE;
        private int columns = FIRST_SIDE;
        private final int[] air = new int[MOST_CELLS];
        private final int[] paste = new int[MOST_CELLS];
        private final int[] open = new int[WAYS];
        private int holes;
        private int out;
        private int night;
        private final int[] met = new int[MOST_CELLS];
        private final int[] line = new int[MOST_CELLS];
        private int inLine;

        Wall() {
            Arrays.fill(paste, FIRST_PASTE);
        }

        void lay(int newRows, int newColumns) {
            rows = newRows;
            columns = newColumns;
            Arrays.fill(air, 0);
            Arrays.fill(paste, FIRST_PASTE);
        }

        void copy(Wall other) {
            rows = other.rows;
            columns = other.columns;
            airAs(other);
            System.arraycopy(other.paste, 0, paste, 0, MOST_CELLS);
            System.arraycopy(other.open, 0, open, 0, WAYS);
            holes = other.holes;
            out = other.out;
            night = other.night;
        }

        void airAs(Wall other) {
            System.arraycopy(other.air, 0, air, 0, MOST_CELLS);
        }

        int cells() {
            return rows * columns;
        }

        boolean has(int cell) {
            return cell >= 0 && cell < rows * columns && cell < MOST_CELLS;
        }

        int rowOf(int cell) {
            return columns > 0 ? cell / columns : 0;
        }

        int columnOf(int cell) {
            return columns > 0 ? cell % columns : 0;
        }

        boolean isOpen(int way) {
            return isWay(way) && open[way] == 1;
        }

        int cellsAhead(int cell, int way) {
            switch (way) {
                case NORTH:
                    return rowOf(cell);
                case EAST:
                    return columns - 1 - columnOf(cell);
                case SOUTH:
                    return rows - 1 - rowOf(cell);
                default:
                    return columnOf(cell);
            }
        }

        /** The next cell that way, or -1. */
        int beside(int cell, int way) {
            if (cellsAhead(cell, way) <= 0) {
                return -1;
            }
            switch (way) {
                case NORTH:
                    return cell - columns;
                case EAST:
                    return cell + 1;
                case SOUTH:
                    return cell + columns;
                default:
                    return cell - 1;
            }
        }

        void strike(Tool kind, int m, Law moved, int cell, int way) {
            if (!has(cell)) {
                return;
            }
            int gone = Math.min(air[cell], kind.lets(air[cell], m));
            air[cell] -= gone;
            goesOut(gone);
            holes = Math.min(MOST_OUT, holes + kind.tears(paste[cell]));
            int reach = kind.reach(m);
            int at = cell;
            for (int i = 0; i < reach && has(at); i++) {
                at = pushOn(kind, m, moved, at, way);
            }
        }

        /** The cell from then on, or -1 at the edge. */
        private int pushOn(Tool kind, int m, Law moved, int at, int way) {
            int moves = Math.min(air[at], kind.moves(air[at], moved.gives(air[at], paste[at], m), m));
            int next = beside(at, way);
            if (has(next)) {
                int there = air[next] + moves;
                air[at] -= moves;
                air[next] = Math.min(there, MOST_AIR);
                goesOut(there - air[next]);
            } else if (isOpen(way)) {
                air[at] -= moves;
                goesOut(moves);
            }
            return next;
        }

        private void goesOut(int gone) {
            out = Math.min(MOST_OUT, out + gone);
        }

        void passNight() {
            for (int cell = 0; cell < MOST_CELLS && has(cell); cell++) {
                air[cell] = Math.max(0, air[cell] - paste[cell]);
                paste[cell] = Math.max(0, paste[cell] - 1);
            }
            night++;
        }

        int allAir() {
            int all = 0;
            for (int cell = 0; cell < MOST_CELLS && has(cell); cell++) {
                all += air[cell];
            }
            return all;
        }

        int cellsWithAir() {
            int many = 0;
            for (int cell = 0; cell < MOST_CELLS && has(cell); cell++) {
                if (air[cell] > 0) {
                    many++;
                }
            }
            return many;
        }

        int openBits() {
            int bits = 0;
            for (int way = 0; way < WAYS; way++) {
                bits |= open[way] << way;
            }
            return bits;
        }

        int shownBy(Law seen) {
            int all = 0;
            int cell = 0;
            for (int row = 0; row < rows; row++) {
                for (int column = 0; column < columns && has(cell); column++) {
                    all += seen.gives(air[cell], row, column);
                    cell++;
                }
            }
            return all;
        }

        boolean isLit(int cell, int way) {
            int at = beside(cell, way);
            for (int i = 0; i < MOST_SIDE && has(at); i++) {
                if (air[at] >= air[cell]) {
                    return false;
                }
                at = beside(at, way);
            }
            return air[cell] > 0;
        }

        int sizeOfBubble(int cell) {
            Arrays.fill(met, 0);
            return meetBubble(cell);
        }

        int countBubbles() {
            Arrays.fill(met, 0);
            int many = 0;
            for (int cell = 0; cell < MOST_CELLS && has(cell); cell++) {
                if (meetBubble(cell) > 0) {
                    many++;
                }
            }
            return many;
        }

        /** The least cell of the greatest bubble, or -1. */
        int cellOfBiggest() {
            Arrays.fill(met, 0);
            int most = 0;
            int cellOfMost = -1;
            for (int cell = 0; cell < MOST_CELLS && has(cell); cell++) {
                int size = meetBubble(cell);
                if (size > most) {
                    most = size;
                    cellOfMost = cell;
                }
            }
            return cellOfMost;
        }

        /** Meets all cells of a cell's bubble: its size, or 0 if there is none or it was met before. */
        private int meetBubble(int cell) {
            inLine = 0;
            meet(cell);
            int size = 0;
            for (int i = 0; i < inLine && i < MOST_CELLS; i++) {
                size += air[line[i]];
                for (int way = 0; way < WAYS; way++) {
                    meet(beside(line[i], way));
                }
            }
            return size;
        }

        private void meet(int cell) {
            if (has(cell) && air[cell] > 0 && met[cell] == 0 && inLine < MOST_CELLS) {
                met[cell] = 1;
                line[inLine] = cell;
                inLine++;
            }
        }
    }

    /** What a USE gives: by its text, kept as steps for a stack, or without one. */
    private static final class Law {
        private static final int NOT = '!';
        private static final int PARENTHESIS = '(';
        private static final int COMPARISON = 3;
        private static final int LEAST_NAME = -3;
        private static final int ROUND = 128;

        private final String names;
        // A number from 0 on, a name (-1, -2, -3), or a sign, less than those, as its negative.
        private final int[] steps = new int[MOST_TAPE];
        private int length;
        private final int[] stack = new int[MOST_TAPE];

        // What bestTwo asks ten thousand times over is worked out once: answers of the present round.
        private final int[] answers;
        private final int side;
        private int round = 1;

        private final int[] draft = new int[MOST_TAPE];
        private int drafted;
        private final int[] held = new int[MOST_TAPE];
        private int holding;
        private int open;
        private int digits;
        private boolean wantsOperand;

        Law(int use, boolean remembers) {
            names = use == MOVED ? "apm" : "arc";
            // What holds without a text stands as one from the start: a, and for MOVED a/2.
            steps[0] = -1;
            length = 1;
            if (use == MOVED) {
                steps[1] = 2;
                steps[2] = -'/';
                length = 3;
            }
            side = use == MOVED ? MOST_PASTE + 1 : MOST_SIDE;
            answers = new int[remembers ? (MOST_AIR + 1) * side * side : 0];
        }

        void copy(Law other) {
            length = other.length;
            System.arraycopy(other.steps, 0, steps, 0, MOST_TAPE);
            round++;
        }

        int gives(int a, int b, int c) {
            int place = placeOf(a, b, c);
            if (place < 0 || place >= answers.length) {
                return worksOut(a, b, c);
            }
            if (answers[place] / ROUND != round) {
                answers[place] = round * ROUND + worksOut(a, b, c);
            }
            return answers[place] % ROUND;
        }

        private int placeOf(int a, int b, int c) {
            if (!within(a, 0, MOST_AIR) || !within(b, 0, side - 1) || !within(c, 0, side - 1)) {
                return -1;
            }
            return (a * side + b) * side + c;
        }

        private int worksOut(int a, int b, int c) {
            int top = 0;
            for (int i = 0; i < length && i < MOST_TAPE; i++) {
                int step = steps[i];
                if (step >= LEAST_NAME && top < MOST_TAPE) {
                    stack[top] = step >= 0 ? step : named(step, a, b, c);
                    top++;
                } else if (step == -NOT && top > 0) {
                    stack[top - 1] = stack[top - 1] == 0 ? 1 : 0;
                } else if (top > 1) {
                    top--;
                    stack[top - 1] = joined(-step, stack[top - 1], stack[top]);
                }
            }
            return Math.max(0, Math.min(MOST_AIR, stack[0]));
        }

        private static int named(int step, int a, int b, int c) {
            if (step == -1) {
                return a;
            }
            return step == -2 ? b : c;
        }

        private static int joined(int sign, int left, int right) {
            switch (sign) {
                case '+':
                    return left + right;
                case '-':
                    return left - right;
                case '*':
                    return left * right;
                case '/':
                    return right == 0 ? 0 : left / right;
                case '%':
                    return right == 0 ? 0 : left % right;
                case '<':
                    return left < right ? 1 : 0;
                case '=':
                    return left == right ? 1 : 0;
                case '>':
                    return left > right ? 1 : 0;
                case '&':
                    return left != 0 && right != 0 ? 1 : 0;
                default:
                    return left != 0 || right != 0 ? 1 : 0;
            }
        }

        /** Takes the tape as the text: -1, or the FAULT, and then the text ahead stays. */
        int read(int[] tape, int bytes) {
            drafted = 0;
            holding = 0;
            open = 0;
            digits = 0;
            wantsOperand = true;
            for (int i = 0; i < bytes && i < tape.length; i++) {
                boolean goesOn = wantsOperand ? begins(tape[i]) : follows(tape[i]);
                if (!goesOn) {
                    return i;
                }
            }
            closeNots();
            closeFrom(1);
            if (wantsOperand || holding > 0) {
                return bytes;
            }
            length = drafted;
            System.arraycopy(draft, 0, steps, 0, MOST_TAPE);
            round++;
            return -1;
        }

        private boolean begins(int b) {
            if (b == NOT || b == PARENTHESIS) {
                if (open >= MOST_OPEN) {
                    return false;
                }
                open++;
                hold(b);
                return true;
            }
            int name = names.indexOf((char) b);
            if (!isDigit(b) && name < 0) {
                return false;
            }
            digits = isDigit(b) ? 1 : 0;
            write(isDigit(b) ? b - '0' : -1 - name);
            wantsOperand = false;
            return true;
        }

        private boolean follows(int b) {
            if (isDigit(b)) {
                return addDigit(b - '0');
            }
            digits = 0;
            closeNots();
            if (b == ')') {
                return closeParenthesis();
            }
            int rank = rankOf(b);
            if (rank == 0) {
                return false;
            }
            // A comparison takes no other one to its left: what it would join is no S.
            closeFrom(rank == COMPARISON ? rank + 1 : rank);
            if (rank == COMPARISON && rankOf(lastHeld()) == COMPARISON) {
                return false;
            }
            hold(b);
            wantsOperand = true;
            return true;
        }

        private boolean addDigit(int digit) {
            if (digits == 0 || digits >= MOST_DIGITS || !within(drafted, 1, MOST_TAPE)) {
                return false;
            }
            draft[drafted - 1] = draft[drafted - 1] * 10 + digit;
            digits++;
            return true;
        }

        private boolean closeParenthesis() {
            closeFrom(1);
            if (lastHeld() != PARENTHESIS) {
                return false;
            }
            holding--;
            open--;
            return true;
        }

        // Not before the byte behind the operand: a number may have further digits.
        private void closeNots() {
            for (int i = 0; i < MOST_TAPE && lastHeld() == NOT; i++) {
                writeLastHeld();
                open--;
            }
        }

        private void closeFrom(int rank) {
            for (int i = 0; i < MOST_TAPE && rankOf(lastHeld()) >= rank; i++) {
                writeLastHeld();
            }
        }

        private int lastHeld() {
            return holding > 0 && holding <= MOST_TAPE ? held[holding - 1] : 0;
        }

        private void writeLastHeld() {
            write(-lastHeld());
            holding--;
        }

        private void hold(int sign) {
            if (holding >= 0 && holding < MOST_TAPE) {
                held[holding] = sign;
                holding++;
            }
        }

        private void write(int step) {
            if (drafted >= 0 && drafted < MOST_TAPE) {
                draft[drafted] = step;
                drafted++;
            }
        }

        private static boolean isDigit(int b) {
            return within(b, '0', '9');
        }

        private static int rankOf(int sign) {
            switch (sign) {
                case '|':
                    return 1;
                case '&':
                    return 2;
                case '<':
                case '=':
                case '>':
                    return COMPARISON;
                case '+':
                case '-':
                    return 4;
                case '*':
                case '/':
                case '%':
                    return 5;
                default:
                    return 0;
            }
        }
    }

    /** Who speaks, and the bodies that have begun since. */
    private static final class Voice {
        private int n;
        private int m;
        private final int[] bodies = new int[MOST_BODIES];
        private int length;

        void start(int number, int mOfTool) {
            n = number;
            m = mOfTool;
            length = 0;
        }

        void begin(int body) {
            if (length >= 0 && length < MOST_BODIES) {
                bodies[length] = body;
                length++;
            }
        }
    }

    /** KIND 0, and what the kinds under it don't tell otherwise; of moves and lets no more than the air counts. */
    private static class Tool {
        boolean isA(int kind) {
            return kind == 0;
        }

        int moves(int a, int v, int m) {
            return v;
        }

        int reach(int m) {
            return 1;
        }

        int lets(int a, int m) {
            return 0;
        }

        int tears(int paste) {
            return 0;
        }

        int sayMoves(int x, Voice by) {
            by.begin(10);
            return x + by.n;
        }

        int sayLets(int x, Voice by) {
            by.begin(11);
            return sayMoves(x, by) * 2;
        }

        int sayTears(int x, Voice by) {
            by.begin(12);
            return x - by.m;
        }

        int sayTells(int x, Voice by) {
            by.begin(13);
            return sayLets(x, by) ^ sayTears(x, by);
        }
    }

    private static class Brush extends Tool {
        boolean isA(int kind) {
            return kind == 1 || super.isA(kind);
        }

        int moves(int a, int v, int m) {
            return v + 1;
        }

        int sayMoves(int x, Voice by) {
            by.begin(20);
            return super.sayMoves(x, by) * 3;
        }
    }

    private static class Needle extends Tool {
        boolean isA(int kind) {
            return kind == 2 || super.isA(kind);
        }

        int moves(int a, int v, int m) {
            return 0;
        }

        int lets(int a, int m) {
            return m + 1;
        }

        int tears(int paste) {
            return paste < 3 ? 1 : 0;
        }

        int sayLets(int x, Voice by) {
            by.begin(30);
            return super.sayLets(x, by) - sayTears(1, by);
        }
    }

    private static class Roller extends Tool {
        boolean isA(int kind) {
            return kind == 3 || super.isA(kind);
        }

        int moves(int a, int v, int m) {
            return a;
        }

        int reach(int m) {
            return 2;
        }

        int sayTears(int x, Voice by) {
            by.begin(40);
            return -super.sayTears(x, by);
        }
    }

    private static final class Soft extends Brush {
        boolean isA(int kind) {
            return kind == 4 || super.isA(kind);
        }

        int moves(int a, int v, int m) {
            return super.moves(a, v, m) / 2;
        }

        int sayTells(int x, Voice by) {
            by.begin(50);
            return super.sayTells(x, by) - sayMoves(2, by);
        }
    }

    private static final class Knife extends Needle {
        boolean isA(int kind) {
            return kind == 5 || super.isA(kind);
        }

        int lets(int a, int m) {
            return a;
        }

        int tears(int paste) {
            return super.tears(paste) + 1;
        }

        int sayLets(int x, Voice by) {
            by.begin(60);
            return super.sayLets(x + 1, by);
        }
    }

    private static final class Hard extends Roller {
        boolean isA(int kind) {
            return kind == 6 || super.isA(kind);
        }

        int moves(int a, int v, int m) {
            return Math.max(0, super.moves(a, v, m) - m);
        }

        int reach(int m) {
            return super.reach(m) + m % 3;
        }

        int tears(int paste) {
            return paste > 7 ? 1 : 0;
        }

        int sayTears(int x, Voice by) {
            by.begin(70);
            return super.sayTears(x, by) ^ by.n;
        }

        int sayTells(int x, Voice by) {
            by.begin(71);
            return sayLets(x, by) - super.sayTells(x, by);
        }
    }
}
