import java.util.Arrays;

/** A path of steps from raw cells to a picture; DOC.md tells what each call answers. */
public final class PicturePath {
    public static final int NONE = -1, UNKNOWN = -101, OUTSIDE = -102, STATE = -103, FULL = -104;

    private static final int SIDE = 16;
    private static final int PLACES = SIDE * SIDE;
    private static final int MOST_PLANES = 3;
    private static final int MOST_STEPS = 10;

    private static final int CELL_TOP = 1023;
    private static final int TOP = 4095;
    private static final int GAIN_TOP = 8000;
    private static final int ENTRY_TOP = 4000;
    /** Gains and matrices are told in thousandths, so that this one changes nothing. */
    private static final int ONE = 1000;
    private static final int CURVE_WAY = 256;

    private static final int BLACK = 0, GAIN = 1, MEND = 2, MIDDLE = 3;
    private static final int COLOURS = 4, MATRIX = 5, CURVE = 6, HALF = 7;

    private static final int WIDTH = 0, HEIGHT = 1, PLANES = 2, LAG = 3, SCALE = 4;
    private static final int STAGE_FACTS = 5;

    private static final int MATRIX_NUMBERS = 9;
    private static final int CURVE_NUMBERS = 17;
    private static final int[] NUMBERS_OF_KIND = {1, 3, 0, 0, 0, 9, 17, 0};
    private static final int[] NO_NUMBERS = {};
    private static final int[] FIRST_MATRIX = {1000, 0, 0, 0, 1000, 0, 0, 0, 1000};

    private static final int NEAR_PLACES = 4;
    private static final int[] NEAR_X = {-2, 2, 0, 0};
    private static final int[] NEAR_Y = {0, 0, -2, 2};

    private static final int EVEN_COLUMNS = 0x5555;
    private static final int ODD_COLUMNS = 0xAAAA;

    private static final long DIGEST_START = 109L;
    private static final long DIGEST_FACTOR = 31L;
    private static final int DIGEST_DEAD = 5000;

    private final Cells cells = new Cells();
    private final Steps steps = new Steps();
    private final Demand demand = new Demand();
    private final Maker maker = new Maker();
    private final int[] matrixAtHand = FIRST_MATRIX.clone();
    private final int[] curveAtHand = new int[CURVE_NUMBERS];

    public PicturePath() {
        cells.renew(1, 1);
        steps.restart(1, 1);
        for (int i = 0; i < CURVE_NUMBERS; i++) {
            curveAtHand[i] = Math.min(CURVE_WAY * i, TOP);
        }
    }

    // ---- cells

    public int size(int w, int h) {
        if (!isWithin(w, 1, SIDE) || !isWithin(h, 1, SIDE)) {
            return OUTSIDE;
        }
        cells.renew(w, h);
        steps.restart(w, h);
        return w * h;
    }

    public int cell(int x, int y, int v) {
        if (!cells.hasPlace(x, y)) {
            return UNKNOWN;
        }
        if (!isWithin(v, 0, CELL_TOP)) {
            return OUTSIDE;
        }
        int place = placeOf(x, y);
        int was = cells.numbers[place];
        cells.numbers[place] = v;
        return was;
    }

    public int dead(int x, int y, boolean is) {
        if (!cells.hasPlace(x, y)) {
            return UNKNOWN;
        }
        int place = placeOf(x, y);
        int was = cells.deadOnes[place] ? 1 : 0;
        cells.deadOnes[place] = is;
        return was;
    }

    // ---- the path

    public int black(int k) {
        if (!isWithin(k, 0, CELL_TOP)) {
            return OUTSIDE;
        }
        return addStep(BLACK, new int[] {k});
    }

    public int gain(int r, int g, int b) {
        if (!isWithin(r, 0, GAIN_TOP) || !isWithin(g, 0, GAIN_TOP) || !isWithin(b, 0, GAIN_TOP)) {
            return OUTSIDE;
        }
        return addStep(GAIN, new int[] {r, g, b});
    }

    public int step(int kind) {
        if (kind != MEND && kind != MIDDLE && kind != COLOURS && kind != HALF) {
            return OUTSIDE;
        }
        return addStep(kind, NO_NUMBERS);
    }

    public int entry(int i, int v) {
        if (!isWithin(i, 0, MATRIX_NUMBERS - 1)) {
            return UNKNOWN;
        }
        if (!isWithin(v, -ENTRY_TOP, ENTRY_TOP)) {
            return OUTSIDE;
        }
        int was = matrixAtHand[i];
        matrixAtHand[i] = v;
        return was;
    }

    public int matrix() {
        return addStep(MATRIX, matrixAtHand);
    }

    public int point(int i, int v) {
        if (!isWithin(i, 0, CURVE_NUMBERS - 1)) {
            return UNKNOWN;
        }
        if (!isWithin(v, 0, TOP)) {
            return OUTSIDE;
        }
        int was = curveAtHand[i];
        curveAtHand[i] = v;
        return was;
    }

    public int curve() {
        for (int i = 1; i < CURVE_NUMBERS; i++) {
            if (curveAtHand[i] < curveAtHand[i - 1]) {
                return OUTSIDE;
            }
        }
        return addStep(CURVE, curveAtHand);
    }

    public int undo() {
        if (steps.length == 0) {
            return STATE;
        }
        steps.length--;
        return steps.length;
    }

    public int kind(int k) {
        return isWithin(k, 0, steps.length - 1) ? steps.kinds[k] : NONE;
    }

    // ---- pictures

    public int stage(int k, int what) {
        if (!steps.hasStage(k)) {
            return UNKNOWN;
        }
        if (!isWithin(what, 0, STAGE_FACTS - 1)) {
            return OUTSIDE;
        }
        return steps.facts[k][what];
    }

    public int at(int k, int x, int y, int plane) {
        if (!steps.hasStage(k)) {
            return UNKNOWN;
        }
        if (!steps.holdsPart(k, x, y, 1, 1) || !steps.hasPlane(k, plane)) {
            return OUTSIDE;
        }
        demand.begin(k);
        demand.askFor(x, y, 1, 1, plane);
        maker.make(cells, steps, demand);
        return maker.made(x, y, plane);
    }

    public int part(int x, int y, int w, int h, int plane) {
        int last = steps.length;
        if (!steps.holdsPart(last, x, y, w, h) || !steps.hasPlane(last, plane)) {
            return OUTSIDE;
        }
        demand.begin(last);
        demand.askFor(x, y, w, h, plane);
        maker.make(cells, steps, demand);
        return maker.sumOf(x, y, w, h, plane);
    }

    public int needs(int x, int y, int w, int h) {
        int last = steps.length;
        if (!steps.holdsPart(last, x, y, w, h)) {
            return OUTSIDE;
        }
        demand.begin(last);
        for (int plane = 0; plane < steps.facts[last][PLANES]; plane++) {
            demand.askFor(x, y, w, h, plane);
        }
        demand.traceBack(steps);
        return demand.cellsAsked();
    }

    public int counts(int cx, int cy, int x, int y, int plane) {
        int last = steps.length;
        if (!cells.hasPlace(cx, cy)) {
            return UNKNOWN;
        }
        if (!steps.holdsPart(last, x, y, 1, 1) || !steps.hasPlane(last, plane)) {
            return OUTSIDE;
        }
        demand.begin(last);
        demand.askFor(x, y, 1, 1, plane);
        demand.traceBack(steps);
        return demand.isCellAsked(cx, cy) ? 1 : 0;
    }

    public int bound(int plane, int side) {
        int last = steps.length;
        if (!steps.hasPlane(last, plane) || !isWithin(side, 0, 1)) {
            return OUTSIDE;
        }
        int width = steps.facts[last][WIDTH];
        int height = steps.facts[last][HEIGHT];
        demand.begin(last);
        demand.askFor(0, 0, width, height, plane);
        maker.make(cells, steps, demand);
        return side == 0 ? maker.leastOf(width, height, plane) : maker.greatestOf(width, height, plane);
    }

    // ---- what is told

    public int count(int what) {
        switch (what) {
            case 0: return cells.width;
            case 1: return cells.height;
            case 2: return cells.howManyDead();
            case 3: return steps.length;
            default: return OUTSIDE;
        }
    }

    public long digest() {
        long h = mixed(DIGEST_START, cells.width);
        h = mixed(h, cells.height);
        h = mixedCells(h);
        h = mixedSteps(h);
        h = mixedRow(h, matrixAtHand, MATRIX_NUMBERS);
        h = mixedRow(h, curveAtHand, CURVE_NUMBERS);
        return mixedPicture(h);
    }

    private int addStep(int kind, int[] numbers) {
        if (!steps.mayTake(kind)) {
            return STATE;
        }
        if (steps.length >= MOST_STEPS) {
            return FULL;
        }
        steps.append(kind, numbers);
        return steps.length;
    }

    private long mixedCells(long start) {
        long h = start;
        for (int y = 0; y < cells.height; y++) {
            for (int x = 0; x < cells.width; x++) {
                int place = placeOf(x, y);
                h = mixed(h, cells.numbers[place] + (cells.deadOnes[place] ? DIGEST_DEAD : 0));
            }
        }
        return h;
    }

    private long mixedSteps(long start) {
        long h = start;
        for (int j = 0; j < steps.length; j++) {
            int kind = steps.kinds[j];
            h = mixed(h, kind);
            h = mixedRow(h, steps.told[j], NUMBERS_OF_KIND[kind]);
        }
        return h;
    }

    private long mixedPicture(long start) {
        int[] facts = steps.facts[steps.length];
        demand.begin(steps.length);
        for (int plane = 0; plane < facts[PLANES]; plane++) {
            demand.askFor(0, 0, facts[WIDTH], facts[HEIGHT], plane);
        }
        maker.make(cells, steps, demand);
        long h = start;
        for (int y = 0; y < facts[HEIGHT]; y++) {
            for (int x = 0; x < facts[WIDTH]; x++) {
                for (int plane = 0; plane < facts[PLANES]; plane++) {
                    h = mixed(h, maker.made(x, y, plane));
                }
            }
        }
        return h;
    }

    private static long mixedRow(long start, int[] row, int length) {
        long h = start;
        for (int i = 0; i < length; i++) {
            h = mixed(h, row[i]);
        }
        return h;
    }

    private static long mixed(long h, long number) {
        return DIGEST_FACTOR * h + number;
    }

    private static boolean isWithin(int v, int least, int greatest) {
        return v >= least && v <= greatest;
    }

    private static int placeOf(int x, int y) {
        return y * SIDE + x;
    }

    private static int colourOf(int x, int y) {
        return (x & 1) + (y & 1);
    }

    /** The raw cells. Rows are SIDE apart whatever the width, so one array serves every size. */
    private static final class Cells {
        int width;
        int height;
        final int[] numbers = new int[PLACES];
        final boolean[] deadOnes = new boolean[PLACES];

        void renew(int w, int h) {
            width = w;
            height = h;
            for (int place = 0; place < PLACES; place++) {
                numbers[place] = 0;
                deadOnes[place] = false;
            }
        }

        boolean hasPlace(int x, int y) {
            return x >= 0 && x < width && y >= 0 && y < height;
        }

        int howManyDead() {
            int many = 0;
            for (int place = 0; place < PLACES; place++) {
                if (deadOnes[place]) {
                    many++;
                }
            }
            return many;
        }
    }

    /** The steps as told, and what is known of each stage without making it. */
    private static final class Steps {
        int length;
        final int[] kinds = new int[MOST_STEPS];
        final int[][] told = new int[MOST_STEPS][CURVE_NUMBERS];
        final int[][] facts = new int[MOST_STEPS + 1][STAGE_FACTS];

        void restart(int w, int h) {
            length = 0;
            facts[0][WIDTH] = w;
            facts[0][HEIGHT] = h;
            facts[0][PLANES] = 1;
            facts[0][LAG] = 0;
            facts[0][SCALE] = 1;
        }

        boolean mayTake(int kind) {
            int[] last = facts[length];
            boolean coloured = last[PLANES] == MOST_PLANES;
            if (kind <= COLOURS) {
                return !coloured;
            }
            if (kind == HALF) {
                return coloured && last[WIDTH] >= 2 && last[HEIGHT] >= 2;
            }
            return coloured;
        }

        /** The caller has looked at mayTake and at the room that is left. */
        void append(int kind, int[] numbers) {
            kinds[length] = kind;
            System.arraycopy(numbers, 0, told[length], 0, NUMBERS_OF_KIND[kind]);
            int[] ahead = facts[length];
            int[] behind = facts[length + 1];
            int shrink = kind == HALF ? 2 : 1;
            behind[WIDTH] = ahead[WIDTH] / shrink;
            behind[HEIGHT] = ahead[HEIGHT] / shrink;
            behind[PLANES] = kind == COLOURS ? MOST_PLANES : ahead[PLANES];
            behind[LAG] = ahead[LAG] + lagOf(kind, ahead[SCALE]);
            behind[SCALE] = ahead[SCALE] * shrink;
            length++;
        }

        private static int lagOf(int kind, int scaleAhead) {
            switch (kind) {
                case MEND:
                case MIDDLE: return 2;
                case COLOURS: return 1;
                case HALF: return scaleAhead;
                default: return 0;
            }
        }

        boolean hasStage(int k) {
            return isWithin(k, 0, length);
        }

        boolean hasPlane(int k, int plane) {
            return isWithin(plane, 0, facts[k][PLANES] - 1);
        }

        /** Subtracts rather than adds: x + w may wrap around. */
        boolean holdsPart(int k, int x, int y, int w, int h) {
            return x >= 0 && y >= 0 && w >= 1 && h >= 1
                && w <= facts[k][WIDTH] - x && h <= facts[k][HEIGHT] - y;
        }
    }

    /**
     * Which numbers of each stage are looked at to make what is asked for of one stage.
     * Bit x of a row stands for column x: a step then moves a whole row at once, and the
     * marks of all stages take little room.
     */
    private static final class Demand {
        int top;
        final int[][] rows = new int[MOST_STEPS + 1][MOST_PLANES * SIDE];

        void begin(int k) {
            top = k;
            Arrays.fill(rows[k], 0);
        }

        void askFor(int x, int y, int w, int h, int plane) {
            int bits = ((1 << w) - 1) << x;
            for (int row = y; row < y + h; row++) {
                rows[top][plane * SIDE + row] |= bits;
            }
        }

        boolean isCellAsked(int x, int y) {
            return (rows[0][y] >> x & 1) == 1;
        }

        int cellsAsked() {
            int many = 0;
            for (int y = 0; y < SIDE; y++) {
                many += Integer.bitCount(rows[0][y]);
            }
            return many;
        }

        void traceBack(Steps steps) {
            for (int j = top - 1; j >= 0; j--) {
                Arrays.fill(rows[j], 0);
                traceStep(steps.kinds[j], rows[j + 1], rows[j], steps.facts[j]);
            }
        }

        private static void traceStep(int kind, int[] behind, int[] ahead, int[] factsAhead) {
            switch (kind) {
                case MEND:
                case MIDDLE:
                    traceNear(behind, ahead, factsAhead);
                    break;
                case COLOURS:
                    traceColours(behind, ahead, factsAhead);
                    break;
                case MATRIX:
                    traceMatrix(behind, ahead);
                    break;
                case HALF:
                    traceHalf(behind, ahead, factsAhead);
                    break;
                default:
                    System.arraycopy(behind, 0, ahead, 0, MOST_PLANES * SIDE);
                    break;
            }
        }

        private static void traceNear(int[] behind, int[] ahead, int[] factsAhead) {
            int height = factsAhead[HEIGHT];
            int columns = (1 << factsAhead[WIDTH]) - 1;
            for (int y = 0; y < height; y++) {
                int bits = behind[y];
                ahead[y] |= (bits | bits << 2 | bits >> 2) & columns;
                if (y >= 2) {
                    ahead[y - 2] |= bits;
                }
                if (y + 2 < height) {
                    ahead[y + 2] |= bits;
                }
            }
        }

        private static void traceColours(int[] behind, int[] ahead, int[] factsAhead) {
            int height = factsAhead[HEIGHT];
            int columns = (1 << factsAhead[WIDTH]) - 1;
            for (int plane = 0; plane < MOST_PLANES; plane++) {
                for (int y = 0; y < height; y++) {
                    int bits = behind[plane * SIDE + y];
                    int own = bits & columnsOf(plane, y);
                    int others = bits & ~own;
                    int around = (others | others << 1 | others >> 1) & columns;
                    ahead[y] |= own;
                    for (int row = Math.max(y - 1, 0); row <= Math.min(y + 1, height - 1); row++) {
                        ahead[row] |= around & columnsOf(plane, row);
                    }
                }
            }
        }

        /** The columns of row y whose places have this colour. */
        private static int columnsOf(int colour, int y) {
            int colourOfEven = y & 1;
            if (colour == colourOfEven) {
                return EVEN_COLUMNS;
            }
            return colour == colourOfEven + 1 ? ODD_COLUMNS : 0;
        }

        private static void traceMatrix(int[] behind, int[] ahead) {
            for (int y = 0; y < SIDE; y++) {
                int bits = behind[y] | behind[SIDE + y] | behind[2 * SIDE + y];
                for (int plane = 0; plane < MOST_PLANES; plane++) {
                    ahead[plane * SIDE + y] = bits;
                }
            }
        }

        private static void traceHalf(int[] behind, int[] ahead, int[] factsAhead) {
            for (int plane = 0; plane < MOST_PLANES; plane++) {
                for (int y = 0; y < factsAhead[HEIGHT] / 2; y++) {
                    int bits = doubled(behind[plane * SIDE + y]);
                    ahead[plane * SIDE + 2 * y] = bits;
                    ahead[plane * SIDE + 2 * y + 1] = bits;
                }
            }
        }

        private static int doubled(int bits) {
            int wide = 0;
            for (int x = 0; x < SIDE / 2; x++) {
                if ((bits >> x & 1) == 1) {
                    wide |= 3 << 2 * x;
                }
            }
            return wide;
        }
    }

    /**
     * Makes the numbers that a Demand asks for, stage by stage, and no other ones.
     * Two rows of numbers take turns; what is not asked for is left over from earlier
     * calls in them, and is never read.
     */
    private static final class Maker {
        private int[] ahead = new int[MOST_PLANES * PLACES];
        private int[] behind = new int[MOST_PLANES * PLACES];
        private final int[] five = new int[NEAR_PLACES + 1];

        void make(Cells cells, Steps steps, Demand demand) {
            demand.traceBack(steps);
            takeCells(cells, demand);
            for (int j = 0; j < demand.top; j++) {
                makeStage(cells, steps, demand, j);
                int[] spare = ahead;
                ahead = behind;
                behind = spare;
            }
        }

        int made(int x, int y, int plane) {
            return ahead[plane * PLACES + y * SIDE + x];
        }

        int sumOf(int x, int y, int w, int h, int plane) {
            int sum = 0;
            for (int row = y; row < y + h; row++) {
                for (int column = x; column < x + w; column++) {
                    sum += made(column, row, plane);
                }
            }
            return sum;
        }

        int leastOf(int width, int height, int plane) {
            int least = TOP;
            for (int y = 0; y < height; y++) {
                for (int x = 0; x < width; x++) {
                    least = Math.min(least, made(x, y, plane));
                }
            }
            return least;
        }

        int greatestOf(int width, int height, int plane) {
            int greatest = 0;
            for (int y = 0; y < height; y++) {
                for (int x = 0; x < width; x++) {
                    greatest = Math.max(greatest, made(x, y, plane));
                }
            }
            return greatest;
        }

        private void takeCells(Cells cells, Demand demand) {
            for (int y = 0; y < cells.height; y++) {
                for (int x = 0; x < cells.width; x++) {
                    if (demand.isCellAsked(x, y)) {
                        ahead[placeOf(x, y)] = cells.numbers[placeOf(x, y)];
                    }
                }
            }
        }

        private void makeStage(Cells cells, Steps steps, Demand demand, int j) {
            int[] facts = steps.facts[j + 1];
            for (int plane = 0; plane < facts[PLANES]; plane++) {
                for (int y = 0; y < facts[HEIGHT]; y++) {
                    int bits = demand.rows[j + 1][plane * SIDE + y];
                    for (int x = 0; x < SIDE && bits >> x != 0; x++) {
                        if ((bits >> x & 1) == 1) {
                            int number = behindStep(cells, steps.kinds[j], steps.told[j], x, y, plane);
                            behind[plane * PLACES + placeOf(x, y)] = Math.max(0, Math.min(number, TOP));
                        }
                    }
                }
            }
        }

        private int behindStep(Cells cells, int kind, int[] told, int x, int y, int plane) {
            switch (kind) {
                case BLACK: return made(x, y, plane) - told[0];
                case GAIN: return made(x, y, plane) * told[colourOf(x, y)] / ONE;
                case MEND: return mended(cells, x, y);
                case MIDDLE: return middle(cells, x, y);
                case COLOURS: return filled(cells, x, y, plane);
                case MATRIX: return mingled(told, x, y, plane);
                case CURVE: return bent(told, made(x, y, plane));
                default: return sumOf(2 * x, 2 * y, 2, 2, plane) / 4;
            }
        }

        private int mended(Cells cells, int x, int y) {
            int own = made(x, y, 0);
            if (!cells.deadOnes[placeOf(x, y)]) {
                return own;
            }
            int sum = 0;
            int many = 0;
            for (int i = 0; i < NEAR_PLACES; i++) {
                int nearX = x + NEAR_X[i];
                int nearY = y + NEAR_Y[i];
                if (cells.hasPlace(nearX, nearY) && !cells.deadOnes[placeOf(nearX, nearY)]) {
                    sum += made(nearX, nearY, 0);
                    many++;
                }
            }
            return many == 0 ? own : sum / many;
        }

        private int middle(Cells cells, int x, int y) {
            int own = made(x, y, 0);
            five[NEAR_PLACES] = own;
            for (int i = 0; i < NEAR_PLACES; i++) {
                int nearX = x + NEAR_X[i];
                int nearY = y + NEAR_Y[i];
                five[i] = cells.hasPlace(nearX, nearY) ? made(nearX, nearY, 0) : own;
            }
            putFiveInOrder();
            return five[2];
        }

        private void putFiveInOrder() {
            for (int i = 1; i < five.length; i++) {
                int number = five[i];
                int free = i;
                while (free > 0 && five[free - 1] > number) {
                    five[free] = five[free - 1];
                    free--;
                }
                five[free] = number;
            }
        }

        private int filled(Cells cells, int x, int y, int plane) {
            if (colourOf(x, y) == plane) {
                return made(x, y, 0);
            }
            int sum = 0;
            int many = 0;
            for (int row = y - 1; row <= y + 1; row++) {
                for (int column = x - 1; column <= x + 1; column++) {
                    if (cells.hasPlace(column, row) && colourOf(column, row) == plane) {
                        sum += made(column, row, 0);
                        many++;
                    }
                }
            }
            return many == 0 ? 0 : sum / many;
        }

        private int mingled(int[] told, int x, int y, int plane) {
            int sum = 0;
            for (int from = 0; from < MOST_PLANES; from++) {
                sum += told[plane * MOST_PLANES + from] * made(x, y, from);
            }
            return Math.floorDiv(sum, ONE);
        }

        private static int bent(int[] told, int number) {
            int i = number / CURVE_WAY;
            int way = number % CURVE_WAY;
            return told[i] + (told[i + 1] - told[i]) * way / CURVE_WAY;
        }
    }
}
