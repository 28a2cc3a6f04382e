/** The sentences on stages and pictures that name an edge: promises 14 to 19, COUNTS and THE LAG. */
public final class PictureEdgesTest {
    private static final int UNKNOWN = -101, OUTSIDE = -102;
    private static final int LOW = Integer.MIN_VALUE, HIGH = Integer.MAX_VALUE;
    private static final int BLACK = 0, GAIN = 1, MEND = 2, MIDDLE = 3, COLOURS = 4, MATRIX = 5, CURVE = 6, HALF = 7;

    private static final Dues dues = new Dues();

    public static void main(String[] args) {
        stagesAre0ToHowManyStepsThereAre();
        stageOfAnotherWhat();
        stageUnknownAheadOfOutside();
        stageSides();
        stagePlanes();
        lagOfEachKind();
        lagOfHalves();
        lagOfTenSteps();
        lagWhereCellsAreLow();
        lagIsTheLeastThatRowsHangOn();
        scaleIsDoubled();
        atOfEachStage();
        atOfNoStage();
        atOfNoPlace();
        atOfNoPlane();
        atUnknownAheadOfOutside();
        atGoesByItsOwnStage();
        partsWithinAndBeyond();
        partsOfGreatNumbers();
        partOfNoPlane();
        partIsOfTheLastStage();
        partIsOfOnePlane();
        partOfAll();
        partIsTheSumOfItsPlaces();
        partIsMadeFromCellsThatCount();
        needsWithinAndBeyond();
        needsOfGreatNumbers();
        needsIsHowManyCount();
        needsOfAllPlanes();
        needsOfEachKind();
        needsOfAllCells();
        countsOfCells();
        countsOfBlackAndGain();
        countsOfMendAndMiddle();
        countsOfMendDeadOrNot();
        countsOfColours();
        countsOfColoursWithoutAny();
        countsOfMatrix();
        countsOfCurve();
        countsOfHalf();
        countsOfStepsOneBehindAnother();
        countsWhateverTheNumbers();
        countsOfNoCell();
        countsOfNoPlace();
        countsOfNoPlane();
        countsUnknownAheadOfOutside();
        whatDoesNotCountChangesNothing();
        boundAtEachPlace();
        boundOf0And4095();
        boundOfEachPlane();
        boundOfNoPlane();
        boundOfNoSide();
        askingChangesNothing();
        dues.end();
    }

    private static void due(String call, long got, long want) {
        dues.due(call, got, want);
    }

    private static PicturePath path(int w, int h, int... kinds) {
        PicturePath p = Pictures.sized(w, h);
        Pictures.addAll(p, kinds);
        return p;
    }

    private static void stagesAre0ToHowManyStepsThereAre() {
        dues.about("14 UNKNOWN: k is not 0 to how many STEPS there are");
        PicturePath p = new PicturePath();
        for (int steps = 0; steps <= 10; steps++) {
            for (int k = -2; k <= 12; k++) {
                boolean is = k >= 0 && k <= steps;
                due(steps + " STEPS: stage(" + k + ", 0)", p.stage(k, 0), is ? 1 : UNKNOWN);
            }
            due(steps + " STEPS: stage of the least k", p.stage(LOW, 0), UNKNOWN);
            due(steps + " STEPS: stage of the greatest k", p.stage(HIGH, 0), UNKNOWN);
            p.black(1);
        }
        p.undo();
        due("stage(10, 0) behind undo", p.stage(10, 0), UNKNOWN);
        due("stage(9, 0) behind undo", p.stage(9, 0), 1);
    }

    private static void stageOfAnotherWhat() {
        dues.about("14 OUTSIDE");
        PicturePath p = path(3, 2, BLACK);
        int[] wrong = {-1, 5, 6, -5, LOW, HIGH};
        for (int what : wrong) {
            due("stage(0, " + what + ")", p.stage(0, what), OUTSIDE);
            due("stage(1, " + what + ")", p.stage(1, what), OUTSIDE);
        }
        due("stage(1, 0)", p.stage(1, 0), 3);
        due("stage(1, 4)", p.stage(1, 4), 1);
    }

    private static void stageUnknownAheadOfOutside() {
        dues.about("14 UNKNOWN, then OUTSIDE");
        PicturePath p = path(3, 2, BLACK);
        int[] nothing = {-1, 2, LOW, HIGH};
        for (int k : nothing) {
            due("stage(" + k + ", -1)", p.stage(k, -1), UNKNOWN);
            due("stage(" + k + ", 5)", p.stage(k, 5), UNKNOWN);
        }
    }

    private static void stageSides() {
        dues.about("14 width, height");
        PicturePath p = path(15, 13, BLACK, GAIN, MEND, MIDDLE, COLOURS, MATRIX, CURVE, HALF, HALF, HALF);
        int[][] want = {{15, 13}, {15, 13}, {15, 13}, {15, 13}, {15, 13}, {15, 13}, {15, 13}, {15, 13}, {7, 6}, {3, 3}, {1, 1}};
        for (int k = 0; k <= 10; k++) {
            due("stage(" + k + ", 0)", p.stage(k, 0), want[k][0]);
            due("stage(" + k + ", 1)", p.stage(k, 1), want[k][1]);
        }
    }

    private static void stagePlanes() {
        dues.about("14 PLANES: without COLOURS one, else three");
        PicturePath p = path(4, 4, BLACK, GAIN, MEND, MIDDLE, COLOURS, MATRIX, CURVE, HALF);
        for (int k = 0; k <= 8; k++) {
            due("stage(" + k + ", 2)", p.stage(k, 2), k <= 4 ? 1 : 3);
        }
        PicturePath first = path(1, 1, COLOURS);
        due("STAGE 0 ahead of COLOURS", first.stage(0, 2), 1);
        due("STAGE 1 behind COLOURS", first.stage(1, 2), 3);
    }

    private static void lagOfEachKind() {
        dues.about("14 THE LAG: 0 of STAGE 0; MEND and MIDDLE: 2 more; COLOURS: 1 more; others: as it is");
        int[] more = {0, 0, 2, 2, 1};
        for (int kind = BLACK; kind <= COLOURS; kind++) {
            PicturePath p = path(8, 8, kind);
            due("of STAGE 0", p.stage(0, 3), 0);
            due("of " + kind, p.stage(1, 3), more[kind]);
            for (int then = BLACK; kind < COLOURS && then <= COLOURS; then++) {
                due("of " + kind + ", " + then, path(8, 8, kind, then).stage(2, 3), more[kind] + more[then]);
            }
        }
        due("of MATRIX", path(8, 8, COLOURS, MATRIX).stage(2, 3), 1);
        due("of CURVE", path(8, 8, COLOURS, CURVE).stage(2, 3), 1);
        due("of HALF", path(8, 8, COLOURS, HALF).stage(2, 3), 2);
        due("of MATRIX behind HALF", path(8, 8, COLOURS, HALF, MATRIX).stage(3, 3), 2);
        due("of CURVE behind HALF", path(8, 8, COLOURS, HALF, CURVE).stage(3, 3), 2);
    }

    private static void lagOfHalves() {
        dues.about("14 THE LAG: HALF: SCALE ahead of it more");
        PicturePath p = path(16, 16, COLOURS, HALF, HALF, HALF, HALF);
        int[] want = {0, 1, 2, 4, 8, 16};
        for (int k = 0; k <= 5; k++) {
            due("stage(" + k + ", 3)", p.stage(k, 3), want[k]);
        }
        PicturePath q = path(16, 16, MEND, MIDDLE, COLOURS, HALF, MATRIX, HALF, CURVE, HALF, HALF);
        int[] other = {0, 2, 4, 5, 6, 6, 8, 8, 12, 20};
        for (int k = 0; k <= 9; k++) {
            due("of another: stage(" + k + ", 3)", q.stage(k, 3), other[k]);
        }
    }

    private static void lagOfTenSteps() {
        dues.about("14 THE LAG of the PATH of 10 STEPS");
        due("ten of MEND", path(16, 16, 2, 2, 2, 2, 2, 2, 2, 2, 2, 2).stage(10, 3), 20);
        due("ten of MIDDLE", path(16, 16, 3, 3, 3, 3, 3, 3, 3, 3, 3, 3).stage(10, 3), 20);
        due("five of MEND, COLOURS, four of HALF", path(16, 16, 2, 2, 2, 2, 2, 4, 7, 7, 7, 7).stage(10, 3), 26);
        due("ten of BLACK", path(16, 16, 0, 0, 0, 0, 0, 0, 0, 0, 0, 0).stage(10, 3), 0);
    }

    private static void lagWhereCellsAreLow() {
        dues.about("14 THE LAG: where CELLS may be as high as they like");
        PicturePath p = path(1, 1, MEND, MIDDLE, COLOURS);
        due("one CELL, MEND", p.stage(1, 3), 2);
        due("one CELL, MIDDLE", p.stage(2, 3), 4);
        due("one CELL, COLOURS", p.stage(3, 3), 5);
        PicturePath two = path(2, 2, COLOURS, HALF);
        due("two rows, HALF", two.stage(2, 3), 2);
    }

    private static void lagIsTheLeastThatRowsHangOn() {
        dues.about("14 THE LAG: each row y hangs on rows of CELLS up to (y times SCALE) and THE LAG at most");
        int[][] paths = {{}, {BLACK, GAIN}, {MEND}, {MIDDLE}, {MEND, MIDDLE}, {COLOURS}, {MEND, COLOURS}, {COLOURS, HALF},
            {MIDDLE, COLOURS, MATRIX, HALF, CURVE}, {COLOURS, HALF, HALF}, {MEND, COLOURS, HALF, HALF}};
        for (int[] kinds : paths) {
            PicturePath shape = path(4, 16, kinds);
            int last = kinds.length;
            int scale = shape.stage(last, 4);
            int lag = shape.stage(last, 3);
            // rows that hang on all that the lag allows lie high enough above the last row of cells
            for (int y = 0; y * scale + lag <= 15; y++) {
                due(java.util.Arrays.toString(kinds) + ", row " + y, lowestRow(path(4, 16, kinds), y), y * scale + lag);
            }
        }
    }

    /** The greatest row of cells that counts for some number of the first places of a row, by counts alone. */
    private static int lowestRow(PicturePath p, int y) {
        int planes = p.stage(p.count(3), 2);
        for (int row = 15; row >= 0; row--) {
            for (int cx = 0; cx < 4; cx++) {
                for (int plane = 0; plane < planes; plane++) {
                    if (p.counts(cx, row, 0, y, plane) == 1) {
                        return row;
                    }
                }
            }
        }
        return -1;
    }

    private static void scaleIsDoubled() {
        dues.about("14 SCALE is 1 at first; HALF: then SCALE is doubled");
        PicturePath p = path(16, 16, MEND, COLOURS, HALF, MATRIX, HALF, CURVE, HALF, HALF);
        int[] want = {1, 1, 1, 2, 2, 4, 4, 8, 16};
        for (int k = 0; k <= 8; k++) {
            due("stage(" + k + ", 4)", p.stage(k, 4), want[k]);
        }
        p.undo();
        p.matrix();
        due("behind undo", p.stage(8, 4), 8);
    }

    private static void atOfEachStage() {
        dues.about("15 The number of a place and PLANE of STAGE k");
        PicturePath p = Pictures.flat(2, 2, 100);
        for (int k = 1; k <= 9; k++) {
            p.black(k);
        }
        p.step(COLOURS);
        int want = 100;
        for (int k = 0; k <= 9; k++) {
            want -= k;
            due("at(" + k + ", 1, 1, 0)", p.at(k, 1, 1, 0), want);
        }
        for (int plane = 0; plane < 3; plane++) {
            due("at(10, 1, 1, " + plane + ")", p.at(10, 1, 1, plane), 55);
        }
        due("STAGE 0 behind all these", p.at(0, 0, 0, 0), 100);
    }

    private static void atOfNoStage() {
        dues.about("15 UNKNOWN: k");
        PicturePath p = new PicturePath();
        for (int steps = 0; steps <= 10; steps++) {
            int[] nothing = {-1, steps + 1, -2, 11, LOW, HIGH};
            for (int k : nothing) {
                due(steps + " STEPS: at(" + k + ", ..)", p.at(k, 0, 0, 0), UNKNOWN);
            }
            due(steps + " STEPS: at(" + steps + ", ..)", p.at(steps, 0, 0, 0), 0);
            p.black(0);
        }
    }

    /** Places outside w by h, some of them such that an index made of them would lie inside. */
    private static int[][] nowhere(int w, int h) {
        return new int[][] {
            {w, 0}, {0, h}, {-1, 0}, {0, -1}, {w, h}, {-1, -1}, {w, -1}, {-1, h}, {-1, 1}, {16, 0}, {0, 16}, {-16, 1},
            {LOW, 0}, {0, LOW}, {HIGH, 0}, {0, HIGH}, {LOW, HIGH}, {HIGH, LOW}, {0, 1 << 28}, {1 << 28, 0},
        };
    }

    private static void atOfNoPlace() {
        dues.about("15 OUTSIDE: there is no such place");
        PicturePath p = path(5, 4, COLOURS, HALF);
        int[][] sizes = {{5, 4}, {5, 4}, {2, 2}};
        for (int k = 0; k <= 2; k++) {
            int w = sizes[k][0];
            int h = sizes[k][1];
            for (int[] c : nowhere(w, h)) {
                due("at(" + k + ", " + c[0] + ", " + c[1] + ", 0)", p.at(k, c[0], c[1], 0), OUTSIDE);
            }
            due("its last place", p.at(k, w - 1, h - 1, 0), 0);
            due("its first place", p.at(k, 0, 0, 0), 0);
        }
    }

    private static void atOfNoPlane() {
        dues.about("15 OUTSIDE: PLANE");
        PicturePath p = path(4, 4, BLACK, COLOURS, MATRIX, HALF);
        for (int k = 0; k <= 4; k++) {
            int planes = k < 2 ? 1 : 3;
            int[] wrong = {-1, planes, 3, 4, LOW, HIGH};
            for (int plane : wrong) {
                due("at(" + k + ", 0, 0, " + plane + ")", p.at(k, 0, 0, plane), OUTSIDE);
            }
            for (int plane = 0; plane < planes; plane++) {
                due("at(" + k + ", 0, 0, " + plane + ")", p.at(k, 0, 0, plane), 0);
            }
        }
    }

    private static void atUnknownAheadOfOutside() {
        dues.about("15 UNKNOWN, then OUTSIDE");
        PicturePath p = path(2, 2, COLOURS);
        int[] nothing = {-1, 2, LOW, HIGH};
        for (int k : nothing) {
            due("at(" + k + ", 2, 0, 0)", p.at(k, 2, 0, 0), UNKNOWN);
            due("at(" + k + ", 0, -1, 0)", p.at(k, 0, -1, 0), UNKNOWN);
            due("at(" + k + ", 0, 0, 3)", p.at(k, 0, 0, 3), UNKNOWN);
        }
    }

    private static void atGoesByItsOwnStage() {
        dues.about("15 a place, PLANE of STAGE k, whatever the last one is");
        PicturePath p = Pictures.sloping(4, 4, 0);
        Pictures.addAll(p, BLACK, COLOURS, HALF, HALF);
        due("at(0, 3, 3, 0)", p.at(0, 3, 3, 0), 330);
        due("at(1, 3, 3, 0)", p.at(1, 3, 3, 0), 330);
        due("at(1, 3, 3, 1)", p.at(1, 3, 3, 1), OUTSIDE);
        due("at(2, 3, 3, 2)", p.at(2, 3, 3, 2), 330);
        due("at(3, 1, 1, 2)", p.at(3, 1, 1, 2) > 0 ? 1 : 0, 1);
        due("at(3, 2, 0, 2)", p.at(3, 2, 0, 2), OUTSIDE);
        due("at(4, 1, 0, 2)", p.at(4, 1, 0, 2), OUTSIDE);
        due("at(4, 0, 0, 2)", p.at(4, 0, 0, 2) > 0 ? 1 : 0, 1);
    }

    private static boolean within(int x, int y, int w, int h, int width, int height) {
        return x >= 0 && y >= 0 && w >= 1 && h >= 1 && x + w <= width && y + h <= height;
    }

    private static void partsWithinAndBeyond() {
        dues.about("16 OUTSIDE: it does not lie within, w, h are below 1");
        int[][] sizes = {{1, 1}, {3, 2}, {2, 3}, {1, 4}, {4, 1}};
        for (int[] s : sizes) {
            for (int x = -2; x <= s[0] + 1; x++) {
                for (int y = -2; y <= s[1] + 1; y++) {
                    partsFrom(s[0], s[1], x, y);
                }
            }
        }
    }

    private static void partsFrom(int width, int height, int x, int y) {
        PicturePath p = Pictures.sloping(width, height, 1);
        for (int w = -1; w <= width + 2; w++) {
            for (int h = -1; h <= height + 2; h++) {
                int want = OUTSIDE;
                if (within(x, y, w, h, width, height)) {
                    want = 0;
                    for (int i = 0; i < w * h; i++) {
                        want += 1 + 10 * (x + i % w) + 100 * (y + i / w);
                    }
                }
                due(width + " by " + height + ": part(" + x + ", " + y + ", " + w + ", " + h + ")", p.part(x, y, w, h, 0), want);
            }
        }
    }

    /** Parts of at most 4 by 4 whose sums of x and w, or y and h, wrap around or come near it. */
    private static final int[][] GREAT_PARTS = {
        {1, 0, HIGH, 1}, {0, 1, 1, HIGH}, {1, 1, HIGH, HIGH}, {0, 0, HIGH, 1}, {0, 0, 1, HIGH}, {2, 0, HIGH - 1, 1},
        {0, 2, 1, HIGH - 1}, {HIGH, 0, 1, 1}, {0, HIGH, 1, 1}, {HIGH, 0, HIGH, 1}, {0, HIGH, 1, HIGH}, {HIGH, 0, 2, 1},
        {0, HIGH, 1, 2}, {LOW, 0, 1, 1}, {0, LOW, 1, 1}, {LOW, 0, LOW, 1}, {0, LOW, 1, LOW}, {LOW, 0, HIGH, 1},
        {0, LOW, 1, HIGH}, {0, 0, LOW, 1}, {0, 0, 1, LOW}, {-1, 0, LOW, 1}, {0, -1, 1, LOW}, {LOW, 0, LOW + 1, 1},
        {0, LOW, 1, LOW + 1}, {HIGH, 0, LOW + 2, 1}, {0, HIGH, 1, LOW + 2}, {HIGH, HIGH, HIGH, HIGH}, {LOW, LOW, LOW, LOW},
        {-1, 0, 2, 1}, {0, -1, 1, 2}, {-4, 0, 4, 1}, {0, -4, 1, 4}, {0, 0, 17, 1}, {0, 0, 1, 17}, {0, 0, 33, 1}, {1, 0, 32, 1},
        {-1, 0, 1, 1}, {0, -1, 1, 1}, {-1, 0, HIGH, 1}, {0, -1, 1, HIGH},
    };

    private static void partsOfGreatNumbers() {
        dues.about("16 OUTSIDE: sums of x and w beyond an int");
        int[][] paths = {{}, {MEND, COLOURS}, {COLOURS, HALF}};
        for (int[] kinds : paths) {
            PicturePath p = path(4, 4, kinds);
            for (int[] q : GREAT_PARTS) {
                due("part(" + q[0] + ", " + q[1] + ", " + q[2] + ", " + q[3] + ")", p.part(q[0], q[1], q[2], q[3], 0), OUTSIDE);
            }
        }
        PicturePath full = path(16, 16);
        for (int[] q : GREAT_PARTS) {
            due("16 by 16: part(" + q[0] + ", " + q[1] + ", " + q[2] + ", " + q[3] + ")",
                full.part(q[0], q[1], q[2], q[3], 0), OUTSIDE);
        }
    }

    private static void partOfNoPlane() {
        dues.about("16 OUTSIDE: PLANE");
        PicturePath cells = path(2, 2, BLACK);
        PicturePath coloured = path(2, 2, COLOURS);
        int[] wrong = {-1, 3, 4, LOW, HIGH};
        for (int plane : wrong) {
            due("of CELLS: part of PLANE " + plane, cells.part(0, 0, 1, 1, plane), OUTSIDE);
            due("behind COLOURS: part of PLANE " + plane, coloured.part(0, 0, 1, 1, plane), OUTSIDE);
        }
        for (int plane = 0; plane < 3; plane++) {
            due("of CELLS: part of PLANE " + plane, cells.part(0, 0, 1, 1, plane), plane == 0 ? 0 : OUTSIDE);
            due("behind COLOURS: part of PLANE " + plane, coloured.part(0, 0, 1, 1, plane), 0);
        }
    }

    private static void partIsOfTheLastStage() {
        dues.about("16 of the last STAGE");
        PicturePath p = Pictures.flat(5, 4, 100);
        due("of CELLS", p.part(0, 0, 5, 4, 0), 2000);
        p.black(10);
        due("behind BLACK", p.part(0, 0, 5, 4, 0), 1800);
        p.step(COLOURS);
        due("behind COLOURS", p.part(0, 0, 5, 4, 2), 1800);
        p.step(HALF);
        due("behind HALF", p.part(0, 0, 2, 2, 2), 360);
        due("as wide as ahead of HALF", p.part(0, 0, 3, 2, 2), OUTSIDE);
        due("as high as ahead of HALF", p.part(0, 0, 2, 3, 2), OUTSIDE);
        p.undo();
        due("behind undo", p.part(0, 0, 5, 4, 2), 1800);
    }

    private static void partIsOfOnePlane() {
        dues.about("16 of one PLANE");
        PicturePath p = Pictures.of(new int[][] {{100, 200}, {200, 400}});
        p.step(COLOURS);
        due("PLANE 0", p.part(0, 0, 2, 2, 0), 400);
        due("PLANE 1", p.part(0, 0, 2, 2, 1), 800);
        due("PLANE 2", p.part(0, 0, 2, 2, 2), 1600);
    }

    private static void partOfAll() {
        dues.about("16 The sum of all numbers of a part, the greatest there is");
        PicturePath p = Pictures.flat(16, 16, 1023);
        due("of CELLS", p.part(0, 0, 16, 16, 0), 256 * 1023);
        p.gain(8000, 8000, 8000);
        due("of 4095", p.part(0, 0, 16, 16, 0), 256 * 4095);
        due("its last column", p.part(15, 0, 1, 16, 0), 16 * 4095);
        due("its last row", p.part(0, 15, 16, 1, 0), 16 * 4095);
        due("its last place", p.part(15, 15, 1, 1, 0), 4095);
        due("one column beyond", p.part(1, 0, 16, 16, 0), OUTSIDE);
        due("one row beyond", p.part(0, 1, 16, 16, 0), OUTSIDE);
    }

    private static final int[][] SOME_PATHS = {{BLACK}, {MEND}, {MIDDLE}, {MIDDLE, MEND, GAIN}, {COLOURS}, {MEND, COLOURS, MATRIX},
        {COLOURS, HALF}, {MIDDLE, COLOURS, CURVE, HALF}, {MEND, MIDDLE, COLOURS, MATRIX, HALF}};

    /** Cells that have little to do with one another, some of them dead. */
    private static PicturePath mixed(int w, int h, int... kinds) {
        PicturePath p = path(w, h, kinds);
        for (int y = 0; y < h; y++) {
            for (int x = 0; x < w; x++) {
                p.cell(x, y, (x * 389 + y * 727 + x * y * 61 + 17) % 1024);
                if ((x * 5 + y * 3) % 7 == 1) {
                    p.dead(x, y, true);
                }
            }
        }
        return p;
    }

    private static void partIsTheSumOfItsPlaces() {
        dues.about("16 The sum of all numbers of a part");
        for (int[] kinds : SOME_PATHS) {
            PicturePath shape = path(6, 5, kinds);
            int last = kinds.length;
            for (int y = 0; y < shape.stage(last, 1); y++) {
                for (int x = 0; x < shape.stage(last, 0); x++) {
                    growingParts(kinds, x, y);
                }
            }
        }
    }

    private static void growingParts(int[] kinds, int x, int y) {
        PicturePath p = mixed(6, 5, kinds);
        int last = kinds.length;
        int w = Math.min(2, p.stage(last, 0) - x);
        int h = p.stage(last, 1) - y;
        for (int plane = 0; plane < p.stage(last, 2); plane++) {
            int whole = p.part(x, y, w, h, plane);
            int sum = 0;
            for (int i = 0; i < w * h; i++) {
                sum += p.at(last, x + i % w, y + i / w, plane);
            }
            due(java.util.Arrays.toString(kinds) + " from (" + x + ", " + y + ")", whole, sum);
        }
    }

    private static void partIsMadeFromCellsThatCount() {
        dues.about("16 made from CELLS that COUNT alone");
        for (int[] kinds : SOME_PATHS) {
            PicturePath p = mixed(7, 5, kinds);
            int last = kinds.length;
            int plane = p.stage(last, 2) - 1;
            int sum = p.part(0, 0, 2, 1, plane);
            for (int i = 0; i < 35; i++) {
                int cx = i % 7;
                int cy = i / 7;
                if (p.counts(cx, cy, 0, 0, plane) == 0 && p.counts(cx, cy, 1, 0, plane) == 0) {
                    p.cell(cx, cy, 1023 - p.at(0, cx, cy, 0));
                    p.dead(cx, cy, p.dead(cx, cy, true) == 0);
                }
            }
            due(java.util.Arrays.toString(kinds), p.part(0, 0, 2, 1, plane), sum);
        }
    }

    private static void needsWithinAndBeyond() {
        dues.about("17 OUTSIDE: such a part");
        int[][] sizes = {{1, 1}, {3, 2}, {2, 3}, {1, 4}, {4, 1}};
        for (int[] s : sizes) {
            for (int x = -2; x <= s[0] + 1; x++) {
                for (int y = -2; y <= s[1] + 1; y++) {
                    needsFrom(s[0], s[1], x, y);
                }
            }
        }
    }

    private static void needsFrom(int width, int height, int x, int y) {
        PicturePath p = path(width, height);
        for (int w = -1; w <= width + 2; w++) {
            for (int h = -1; h <= height + 2; h++) {
                int want = within(x, y, w, h, width, height) ? w * h : OUTSIDE;
                due(width + " by " + height + ": needs(" + x + ", " + y + ", " + w + ", " + h + ")", p.needs(x, y, w, h), want);
            }
        }
    }

    private static void needsOfGreatNumbers() {
        dues.about("17 OUTSIDE: sums of x and w beyond an int");
        int[][] paths = {{}, {MEND, COLOURS}, {COLOURS, HALF}};
        for (int[] kinds : paths) {
            PicturePath p = path(4, 4, kinds);
            for (int[] q : GREAT_PARTS) {
                due("needs(" + q[0] + ", " + q[1] + ", " + q[2] + ", " + q[3] + ")", p.needs(q[0], q[1], q[2], q[3]), OUTSIDE);
            }
        }
    }

    private static void needsIsHowManyCount() {
        dues.about("17 How many CELLS COUNT for some number of such a part");
        for (int[] kinds : SOME_PATHS) {
            PicturePath p = path(6, 6, kinds);
            int last = kinds.length;
            int planes = p.stage(last, 2);
            int w = Math.min(2, p.stage(last, 0));
            int many = 0;
            for (int i = 0; i < 36; i++) {
                boolean counts = false;
                for (int x = 1; x <= w; x++) {
                    for (int plane = 0; plane < planes; plane++) {
                        counts |= p.counts(i % 6, i / 6, x, 1, plane) == 1;
                    }
                }
                many += counts ? 1 : 0;
            }
            due(java.util.Arrays.toString(kinds), p.needs(1, 1, w, 1), many);
        }
    }

    private static void needsOfAllPlanes() {
        dues.about("17 (all PLANES)");
        PicturePath p = path(5, 5, COLOURS);
        due("at COLOUR 0", p.needs(2, 2, 1, 1), 9);
        due("at COLOUR 2", p.needs(1, 1, 1, 1), 9);
        due("at COLOUR 1, in an even row", p.needs(1, 2, 1, 1), 5);
        due("at COLOUR 1, in an odd row", p.needs(2, 1, 1, 1), 5);
        due("at a corner", p.needs(0, 0, 1, 1), 4);
        due("at the last corner", p.needs(4, 4, 1, 1), 4);
        due("at a side, COLOUR 0", p.needs(2, 0, 1, 1), 6);
        due("at a side, COLOUR 1", p.needs(1, 0, 1, 1), 4);
    }

    private static void needsOfEachKind() {
        dues.about("17 needs of each kind of STEP");
        int[] of = {1, 1, 5, 5, 9};
        for (int kind = BLACK; kind <= COLOURS; kind++) {
            due("of " + kind, path(9, 9, kind).needs(4, 4, 1, 1), of[kind]);
        }
        due("of MATRIX", path(9, 9, COLOURS, MATRIX).needs(4, 4, 1, 1), 9);
        due("of CURVE", path(9, 9, COLOURS, CURVE).needs(4, 4, 1, 1), 9);
        // the four of (2, 2) are (4, 4) to (5, 5): rows 3 to 6, columns 3 to 6; (4, 4) and (5, 5) look at all
        // eight around, those of colour 1 at four, and so the corners (6, 3) and (3, 6) are looked at by none
        due("of HALF", path(9, 9, COLOURS, HALF).needs(2, 2, 1, 1), 14);
        due("of MEND at a corner", path(9, 9, MEND).needs(0, 0, 1, 1), 3);
        due("of MEND at the last corner", path(9, 9, MEND).needs(8, 8, 1, 1), 3);
        due("of MIDDLE at a side", path(9, 9, MIDDLE).needs(0, 4, 1, 1), 4);
        due("of MIDDLE one from a side", path(9, 9, MIDDLE).needs(4, 7, 1, 1), 4);
        due("of MEND of one CELL", path(1, 1, MEND).needs(0, 0, 1, 1), 1);
        due("of MIDDLE of two by two", path(2, 2, MIDDLE).needs(1, 1, 1, 1), 1);
        due("of MEND, a row of three", path(9, 9, MEND).needs(3, 4, 3, 1), 7 + 6);
    }

    private static void needsOfAllCells() {
        dues.about("17 needs of all");
        int[][] paths = {{}, {BLACK, GAIN}, {MEND, MIDDLE}, {MEND, COLOURS, MATRIX, CURVE}};
        for (int[] kinds : paths) {
            due(java.util.Arrays.toString(kinds), path(16, 16, kinds).needs(0, 0, 16, 16), 256);
        }
        due("of one HALF, even", path(16, 16, COLOURS, HALF).needs(0, 0, 8, 8), 256);
        due("of four", path(16, 16, COLOURS, HALF, HALF, HALF, HALF).needs(0, 0, 1, 1), 256);
        // what HALF leaves out is looked at by COLOURS beside it
        due("of one HALF, odd", path(5, 5, COLOURS, HALF).needs(0, 0, 2, 2), 25);
        due("of one HALF, 3 by 2", path(3, 2, COLOURS, HALF).needs(0, 0, 1, 1), 6);
    }

    /** Whether a cell may count, as the document says it of a kind. */
    private interface Looks {
        boolean at(int cx, int cy, int x, int y, int plane);
    }

    private static void countsEverywhere(int width, int height, Looks looks, int... kinds) {
        PicturePath shape = path(width, height, kinds);
        int last = kinds.length;
        for (int y = 0; y < shape.stage(last, 1); y++) {
            for (int x = 0; x < shape.stage(last, 0); x++) {
                for (int plane = 0; plane < shape.stage(last, 2); plane++) {
                    PicturePath p = path(width, height, kinds);
                    for (int i = 0; i < width * height; i++) {
                        int cx = i % width;
                        int cy = i / width;
                        due(java.util.Arrays.toString(kinds) + " counts(" + cx + ", " + cy + ", " + x + ", " + y + ", " + plane + ")",
                            p.counts(cx, cy, x, y, plane), looks.at(cx, cy, x, y, plane) ? 1 : 0);
                    }
                }
            }
        }
    }

    private static boolean isSame(int cx, int cy, int x, int y) {
        return cx == x && cy == y;
    }

    private static boolean isTwoAway(int cx, int cy, int x, int y) {
        int dx = Math.abs(cx - x);
        int dy = Math.abs(cy - y);
        return dx + dy == 2 && dx != 1;
    }

    private static boolean isLookedAtByColours(int cx, int cy, int x, int y, int plane) {
        if (x % 2 + y % 2 == plane) {
            return isSame(cx, cy, x, y);
        }
        boolean around = Math.abs(cx - x) <= 1 && Math.abs(cy - y) <= 1;
        return around && cx % 2 + cy % 2 == plane;
    }

    private static boolean isLookedAtByAnyColour(int cx, int cy, int x, int y) {
        return isLookedAtByColours(cx, cy, x, y, 0) || isLookedAtByColours(cx, cy, x, y, 1)
            || isLookedAtByColours(cx, cy, x, y, 2);
    }

    private static void countsOfCells() {
        dues.about("18 counts of STAGE 0");
        countsEverywhere(4, 3, (cx, cy, x, y, plane) -> isSame(cx, cy, x, y));
    }

    private static void countsOfBlackAndGain() {
        dues.about("18 BLACK, GAIN: the same place");
        countsEverywhere(4, 3, (cx, cy, x, y, plane) -> isSame(cx, cy, x, y), BLACK);
        countsEverywhere(3, 4, (cx, cy, x, y, plane) -> isSame(cx, cy, x, y), GAIN);
    }

    private static void countsOfMendAndMiddle() {
        dues.about("18 MEND: the place, and its NEAR; MIDDLE: the place and the four");
        Looks looks = (cx, cy, x, y, plane) -> isSame(cx, cy, x, y) || isTwoAway(cx, cy, x, y);
        countsEverywhere(6, 5, looks, MEND);
        countsEverywhere(5, 6, looks, MIDDLE);
        countsEverywhere(16, 1, looks, MEND);
        countsEverywhere(1, 16, looks, MIDDLE);
        countsEverywhere(2, 2, looks, MIDDLE);
    }

    private static void countsOfMendDeadOrNot() {
        dues.about("18 MEND: the place, and its NEAR, whether DEAD or not");
        for (int which = 0; which < 32; which++) {
            PicturePath p = path(5, 5, MEND);
            int[][] five = {{2, 2}, {0, 2}, {4, 2}, {2, 0}, {2, 4}};
            for (int i = 0; i < 5; i++) {
                p.dead(five[i][0], five[i][1], (which >> i & 1) == 1);
            }
            for (int[] c : five) {
                due("DEAD ones by " + which + ": counts(" + c[0] + ", " + c[1] + ", ..)", p.counts(c[0], c[1], 2, 2, 0), 1);
            }
            due("DEAD ones by " + which + ": one beside", p.counts(1, 2, 2, 2, 0), 0);
            due("DEAD ones by " + which + ": needs", p.needs(2, 2, 1, 1), 5);
        }
    }

    private static void countsOfColours() {
        dues.about("18 COLOURS: the places around with that COLOUR (or the place itself alone)");
        countsEverywhere(5, 4, PictureEdgesTest::isLookedAtByColours, COLOURS);
        countsEverywhere(4, 5, PictureEdgesTest::isLookedAtByColours, COLOURS);
    }

    private static void countsOfColoursWithoutAny() {
        dues.about("18 COLOURS: the places around with that COLOUR, of which there is none");
        PicturePath one = path(1, 1, COLOURS);
        due("one CELL, PLANE 0", one.counts(0, 0, 0, 0, 0), 1);
        due("one CELL, PLANE 1", one.counts(0, 0, 0, 0, 1), 0);
        due("one CELL, PLANE 2", one.counts(0, 0, 0, 0, 2), 0);
        countsEverywhere(6, 1, PictureEdgesTest::isLookedAtByColours, COLOURS);
        countsEverywhere(1, 6, PictureEdgesTest::isLookedAtByColours, COLOURS);
    }

    private static void countsOfMatrix() {
        dues.about("18 MATRIX: the same place, all three PLANES");
        countsEverywhere(4, 4, (cx, cy, x, y, plane) -> isLookedAtByAnyColour(cx, cy, x, y), COLOURS, MATRIX);
    }

    private static void countsOfCurve() {
        dues.about("18 CURVE: the same place, of one PLANE");
        countsEverywhere(4, 4, PictureEdgesTest::isLookedAtByColours, COLOURS, CURVE);
    }

    private static void countsOfHalf() {
        dues.about("18 HALF: the four");
        Looks four = (cx, cy, x, y, plane) -> isLookedAtByColours(cx, cy, 2 * x, 2 * y, plane)
            || isLookedAtByColours(cx, cy, 2 * x + 1, 2 * y, plane)
            || isLookedAtByColours(cx, cy, 2 * x, 2 * y + 1, plane)
            || isLookedAtByColours(cx, cy, 2 * x + 1, 2 * y + 1, plane);
        countsEverywhere(6, 6, four, COLOURS, HALF);
        countsEverywhere(5, 7, four, COLOURS, HALF);
        countsEverywhere(3, 2, four, COLOURS, HALF);
        countsEverywhere(16, 2, four, COLOURS, HALF);
    }

    private static void countsOfStepsOneBehindAnother() {
        dues.about("18 COUNTS for a number of a STAGE, behind several STEPS");
        Looks diamond = (cx, cy, x, y, plane) -> {
            boolean is = false;
            int[][] five = {{0, 0}, {2, 0}, {-2, 0}, {0, 2}, {0, -2}};
            for (int[] d : five) {
                boolean there = x + d[0] >= 0 && x + d[0] < 7 && y + d[1] >= 0 && y + d[1] < 7;
                is |= there && (isSame(cx, cy, x + d[0], y + d[1]) || isTwoAway(cx, cy, x + d[0], y + d[1]));
            }
            return is;
        };
        countsEverywhere(7, 7, diamond, MEND, MIDDLE);
        countsEverywhere(7, 7, diamond, MIDDLE, BLACK, MIDDLE);
    }

    private static void countsWhateverTheNumbers() {
        dues.about("18 COUNTS: by the STEPS, whatever their numbers");
        PicturePath p = Pictures.sized(4, 4);
        p.black(1023);
        p.gain(0, 0, 0);
        due("behind BLACK 1023, GAIN 0", p.counts(2, 2, 2, 2, 0), 1);
        p.step(COLOURS);
        for (int i = 0; i < 9; i++) {
            p.entry(i, 0);
        }
        p.matrix();
        for (int i = 0; i < 17; i++) {
            p.point(i, 9);
        }
        p.curve();
        for (int plane = 0; plane < 3; plane++) {
            due("behind a MATRIX of 0 and a level CURVE, PLANE " + plane, p.counts(1, 1, 2, 2, plane), 1);
        }
        due("needs", p.needs(2, 2, 1, 1), 9);
    }

    private static void countsOfNoCell() {
        dues.about("18 UNKNOWN: there is no such CELL");
        int[][] paths = {{}, {MEND}, {COLOURS, HALF}};
        for (int[] kinds : paths) {
            PicturePath p = path(5, 4, kinds);
            for (int[] c : nowhere(5, 4)) {
                due("counts(" + c[0] + ", " + c[1] + ", 0, 0, 0)", p.counts(c[0], c[1], 0, 0, 0), UNKNOWN);
            }
            due("the last CELL", p.counts(4, 3, 0, 0, 0), 0);
        }
    }

    private static void countsOfNoPlace() {
        dues.about("18 OUTSIDE: there is no such place");
        PicturePath cells = path(5, 4, MEND);
        for (int[] c : nowhere(5, 4)) {
            due("counts(0, 0, " + c[0] + ", " + c[1] + ", 0)", cells.counts(0, 0, c[0], c[1], 0), OUTSIDE);
        }
        PicturePath half = path(5, 4, COLOURS, HALF);
        for (int[] c : nowhere(2, 2)) {
            due("behind HALF: counts(4, 3, " + c[0] + ", " + c[1] + ", 0)", half.counts(4, 3, c[0], c[1], 0), OUTSIDE);
        }
        due("behind HALF, the last place, PLANE 1", half.counts(4, 3, 1, 1, 1), 1);
        due("behind HALF, the last place, PLANE 0", half.counts(4, 2, 1, 1, 0), 1);
    }

    private static void countsOfNoPlane() {
        dues.about("18 OUTSIDE: PLANE");
        PicturePath cells = path(2, 2, MEND);
        PicturePath coloured = path(2, 2, COLOURS);
        int[] wrong = {-1, 3, 4, LOW, HIGH};
        for (int plane : wrong) {
            due("of CELLS: PLANE " + plane, cells.counts(0, 0, 0, 0, plane), OUTSIDE);
            due("behind COLOURS: PLANE " + plane, coloured.counts(0, 0, 0, 0, plane), OUTSIDE);
        }
        due("of CELLS: PLANE 1", cells.counts(0, 0, 0, 0, 1), OUTSIDE);
        due("of CELLS: PLANE 2", cells.counts(0, 0, 0, 0, 2), OUTSIDE);
        due("behind COLOURS: PLANE 2", coloured.counts(1, 1, 0, 0, 2), 1);
    }

    private static void countsUnknownAheadOfOutside() {
        dues.about("18 UNKNOWN, then OUTSIDE");
        PicturePath p = path(3, 3, COLOURS, HALF);
        int[][] no = {{3, 0}, {0, 3}, {-1, 0}, {0, -1}, {LOW, HIGH}};
        for (int[] c : no) {
            due("a place outside", p.counts(c[0], c[1], 1, 0, 0), UNKNOWN);
            due("a PLANE outside", p.counts(c[0], c[1], 0, 0, 3), UNKNOWN);
        }
        due("a place outside, a CELL inside", p.counts(2, 2, 1, 0, 0), OUTSIDE);
    }

    private static void whatDoesNotCountChangesNothing() {
        dues.about("18 a CELL that does not COUNT is not looked at");
        for (int[] kinds : SOME_PATHS) {
            int last = kinds.length;
            for (int plane = 0; plane < path(5, 5, kinds).stage(last, 2); plane++) {
                PicturePath p = mixed(5, 5, kinds);
                int number = p.at(last, 1, 1, plane);
                for (int i = 0; i < 25; i++) {
                    if (p.counts(i % 5, i / 5, 1, 1, plane) == 0) {
                        p.cell(i % 5, i / 5, i % 2 == 0 ? 0 : 1023);
                        due("its number", p.at(last, 1, 1, plane), number);
                        p.dead(i % 5, i / 5, i % 3 == 0);
                        due("its being DEAD", p.at(last, 1, 1, plane), number);
                    }
                }
            }
        }
    }

    private static void boundAtEachPlace() {
        dues.about("19 The least, greatest (side 0, 1) number");
        for (int i = 0; i < 12; i++) {
            PicturePath p = Pictures.flat(4, 3, 500);
            due("least of alike ones", p.bound(0, 0), 500);
            due("greatest of alike ones", p.bound(0, 1), 500);
            p.cell(i % 4, i / 4, 499);
            due("least", p.bound(0, 0), 499);
            due("greatest of the others", p.bound(0, 1), 500);
            p.cell(i % 4, i / 4, 501);
            due("least of the others", p.bound(0, 0), 500);
            due("greatest", p.bound(0, 1), 501);
        }
    }

    private static void boundOf0And4095() {
        dues.about("19 of 0 and of 4095");
        PicturePath p = Pictures.sized(16, 16);
        due("least of 0", p.bound(0, 0), 0);
        due("greatest of 0", p.bound(0, 1), 0);
        p.gain(8000, 8000, 8000);
        p.cell(15, 15, 1023);
        due("least with a 4095", p.bound(0, 0), 0);
        due("greatest with a 4095", p.bound(0, 1), 4095);
        PicturePath one = Pictures.flat(1, 1, 1023);
        one.gain(8000, 8000, 8000);
        due("least of one", one.bound(0, 0), 4095);
        due("greatest of one", one.bound(0, 1), 4095);
    }

    private static void boundOfEachPlane() {
        dues.about("19 of a PLANE of the last STAGE");
        PicturePath p = Pictures.of(new int[][] {{100, 200, 110}, {220, 400, 240}, {120, 260, 130}});
        due("of CELLS, least", p.bound(0, 0), 100);
        due("of CELLS, greatest", p.bound(0, 1), 400);
        p.step(COLOURS);
        due("PLANE 0, least", p.bound(0, 0), 100);
        due("PLANE 0, greatest", p.bound(0, 1), 130);
        due("PLANE 1, least", p.bound(1, 0), 200);
        due("PLANE 1, greatest", p.bound(1, 1), 260);
        due("PLANE 2, least", p.bound(2, 0), 400);
        due("PLANE 2, greatest", p.bound(2, 1), 400);
        p.step(HALF);
        due("of one place, least", p.bound(0, 0), p.at(2, 0, 0, 0));
        due("of one place, greatest", p.bound(0, 1), p.at(2, 0, 0, 0));
    }

    private static void boundOfNoPlane() {
        dues.about("19 OUTSIDE: PLANE");
        PicturePath cells = path(2, 2, MEND);
        PicturePath coloured = path(2, 2, COLOURS);
        int[] wrong = {-1, 3, 4, LOW, HIGH};
        for (int plane : wrong) {
            for (int side = 0; side < 2; side++) {
                due("of CELLS: bound(" + plane + ", " + side + ")", cells.bound(plane, side), OUTSIDE);
                due("behind COLOURS: bound(" + plane + ", " + side + ")", coloured.bound(plane, side), OUTSIDE);
            }
        }
        due("of CELLS: bound(1, 0)", cells.bound(1, 0), OUTSIDE);
        due("of CELLS: bound(2, 1)", cells.bound(2, 1), OUTSIDE);
        due("behind COLOURS: bound(2, 1)", coloured.bound(2, 1), 0);
        coloured.undo();
        due("behind undo: bound(2, 1)", coloured.bound(2, 1), OUTSIDE);
    }

    private static void boundOfNoSide() {
        dues.about("19 OUTSIDE: side");
        PicturePath p = Pictures.flat(2, 2, 4);
        int[] wrong = {-1, 2, 3, LOW, HIGH};
        for (int side : wrong) {
            due("bound(0, " + side + ")", p.bound(0, side), OUTSIDE);
            due("bound(3, " + side + ")", p.bound(3, side), OUTSIDE);
        }
        due("bound(0, 0)", p.bound(0, 0), 4);
        due("bound(0, 1)", p.bound(0, 1), 4);
    }

    private static void askingChangesNothing() {
        dues.about("13 to 21 what is asked changes nothing");
        for (int[] kinds : SOME_PATHS) {
            PicturePath p = mixed(6, 5, kinds);
            long before = p.digest();
            int last = kinds.length;
            for (int k = 0; k <= last; k++) {
                p.at(k, 0, 0, 0);
                p.at(k, 1, 1, 0);
                p.stage(k, 3);
                p.kind(k);
            }
            p.part(1, 1, 1, 1, 0);
            p.needs(0, 0, 2, 2);
            p.counts(5, 4, 0, 0, 0);
            p.bound(0, 0);
            p.count(2);
            due("digest", p.digest(), before);
            due("digest again", p.digest(), before);
        }
    }
}
