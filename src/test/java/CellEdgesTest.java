/** The sentences on cells that name an edge: promises 1 to 4 and 20, and what the document says of calls. */
public final class CellEdgesTest {
    private static final int NONE = -1, UNKNOWN = -101, OUTSIDE = -102, STATE = -103;
    private static final int LOW = Integer.MIN_VALUE, HIGH = Integer.MAX_VALUE;
    private static final int MEND = 2, COLOURS = 4, HALF = 7;

    private static final Dues dues = new Dues();

    public static void main(String[] args) {
        constantsAreTheDocuments();
        aNewObjectHasOneCell();
        aNewObjectHasNoSteps();
        aNewObjectHasTheFirstNumbersAtHand();
        objectsShareNothing();
        sidesAre1To16();
        sidesBelow1();
        sidesAbove16();
        bothSidesWrong();
        placesAreColumnAndRow();
        placesThereAre();
        placesOfAnEarlierSizeAreGone();
        numbersAre0AtFirst();
        noneIsDeadAtFirst();
        sizeMakesNewCells();
        theSameSizeMakesNewCells();
        sizeEmptiesThePath();
        sizeLeavesTheNumbersAtHand();
        numbersAre0To1023();
        numbersBeyond();
        cellAnswersWhatItWas();
        cellOfNoPlace();
        cellUnknownAheadOfOutside();
        aDeadCellHasItsNumber();
        deadAnswersWhetherItWas();
        deadOfNoPlace();
        everyCellMayBeDead();
        countOfEachWhat();
        countOfAnotherWhat();
        countIsOfCells();
        theLastOf512Calls();
        dues.end();
    }

    private static void due(String call, long got, long want) {
        dues.due(call, got, want);
    }

    private static void constantsAreTheDocuments() {
        dues.about("The public face");
        due("NONE", PicturePath.NONE, NONE);
        due("UNKNOWN", PicturePath.UNKNOWN, UNKNOWN);
        due("OUTSIDE", PicturePath.OUTSIDE, OUTSIDE);
        due("STATE", PicturePath.STATE, STATE);
        due("FULL", PicturePath.FULL, -104);
    }

    private static void aNewObjectHasOneCell() {
        dues.about("1 One CELL");
        PicturePath p = new PicturePath();
        due("count(0)", p.count(0), 1);
        due("count(1)", p.count(1), 1);
        due("count(2)", p.count(2), 0);
        due("stage(0, 0)", p.stage(0, 0), 1);
        due("stage(0, 1)", p.stage(0, 1), 1);
        due("stage(0, 2)", p.stage(0, 2), 1);
        due("stage(0, 3)", p.stage(0, 3), 0);
        due("stage(0, 4)", p.stage(0, 4), 1);
        due("at(0, 0, 0, 0)", p.at(0, 0, 0, 0), 0);
        due("needs", p.needs(0, 0, 1, 1), 1);
        due("cell(1, 0)", p.cell(1, 0, 1), UNKNOWN);
        due("cell(0, 1)", p.cell(0, 1, 1), UNKNOWN);
        due("dead(1, 0)", p.dead(1, 0, true), UNKNOWN);
        due("dead(0, 1)", p.dead(0, 1, true), UNKNOWN);
        due("dead(0, 0)", p.dead(0, 0, true), 0);
        due("cell(0, 0)", p.cell(0, 0, 1023), 0);
        due("at of it", p.at(0, 0, 0, 0), 1023);
    }

    private static void aNewObjectHasNoSteps() {
        dues.about("1 no STEPS");
        PicturePath p = new PicturePath();
        due("count(3)", p.count(3), 0);
        due("kind(0)", p.kind(0), NONE);
        due("stage(1, 0)", p.stage(1, 0), UNKNOWN);
        due("at(1, ..)", p.at(1, 0, 0, 0), UNKNOWN);
        due("undo()", p.undo(), STATE);
        due("black(0)", p.black(0), 1);
    }

    private static void aNewObjectHasTheFirstNumbersAtHand() {
        dues.about("8, 10 at first");
        PicturePath p = new PicturePath();
        for (int i = 0; i < 9; i++) {
            due("entry(" + i + ")", p.entry(i, 1), i % 4 == 0 ? 1000 : 0);
        }
        for (int i = 0; i < 16; i++) {
            due("point(" + i + ")", p.point(i, 1), 256 * i);
        }
        due("point(16)", p.point(16, 1), 4095);
    }

    private static void objectsShareNothing() {
        dues.about("1 A new object, beside others");
        PicturePath first = Pictures.flat(2, 2, 9);
        long digest = new PicturePath().digest();
        first.dead(0, 0, true);
        first.entry(0, 7);
        first.point(16, 4000);
        first.step(COLOURS);
        first.matrix();
        long before = first.digest();
        PicturePath second = new PicturePath();
        due("digest of the new one", second.digest(), digest);
        second.size(2, 2);
        second.cell(1, 1, 5);
        second.entry(0, 8);
        second.point(16, 4001);
        second.black(3);
        due("digest of the old one", first.digest(), before);
        due("entry of the old one", first.entry(0, 7), 7);
        due("entry of the new one", second.entry(0, 8), 8);
    }

    private static void sidesAre1To16() {
        dues.about("2 H rows of W (1 to 16 each): how many");
        for (int w = 1; w <= 16; w++) {
            for (int h = 1; h <= 16; h++) {
                PicturePath p = new PicturePath();
                String size = "size(" + w + ", " + h + ")";
                due(size, p.size(w, h), w * h);
                due(size + " count(0)", p.count(0), w);
                due(size + " count(1)", p.count(1), h);
                due(size + " stage(0, 0)", p.stage(0, 0), w);
                due(size + " stage(0, 1)", p.stage(0, 1), h);
                due(size + " needs of all", p.needs(0, 0, w, h), w * h);
            }
        }
    }

    private static void sidesBelow1() {
        dues.about("2 OUTSIDE, below 1");
        int[] wrong = {0, -1, -16, LOW};
        refusedSides(wrong);
    }

    private static void sidesAbove16() {
        dues.about("2 OUTSIDE, above 16");
        int[] wrong = {17, 18, 32, 256, HIGH};
        refusedSides(wrong);
    }

    private static void refusedSides(int[] wrong) {
        PicturePath p = Pictures.sloping(4, 3, 7);
        p.black(2);
        long before = p.digest();
        int[] right = {1, 3, 16};
        for (int side : wrong) {
            for (int other : right) {
                due("size(" + side + ", " + other + ")", p.size(side, other), OUTSIDE);
                due("size(" + other + ", " + side + ")", p.size(other, side), OUTSIDE);
            }
        }
        due("width behind", p.count(0), 4);
        due("height behind", p.count(1), 3);
        due("digest behind", p.digest(), before);
    }

    private static void bothSidesWrong() {
        dues.about("2 OUTSIDE, both");
        PicturePath p = Pictures.sloping(2, 2, 7);
        long before = p.digest();
        // products that look right: (-1) (-1) is 1, 65536 times 65536 wraps to 0
        int[][] wrong = {{0, 0}, {17, 17}, {0, 17}, {-1, -1}, {65536, 65536}, {LOW, LOW}, {HIGH, HIGH}};
        for (int[] s : wrong) {
            due("size(" + s[0] + ", " + s[1] + ")", p.size(s[0], s[1]), OUTSIDE);
        }
        due("digest behind", p.digest(), before);
    }

    private static void placesAreColumnAndRow() {
        dues.about("place (x, y) being column x, row y");
        PicturePath p = Pictures.sized(3, 2);
        due("cell(2, 1)", p.cell(2, 1, 6), 0);
        due("cell(1, 2)", p.cell(1, 2, 6), UNKNOWN);
        due("dead(2, 0)", p.dead(2, 0, true), 0);
        due("dead(0, 2)", p.dead(0, 2, true), UNKNOWN);
        due("column 2", p.part(2, 0, 1, 2, 0), 6);
        due("row 1", p.part(0, 1, 3, 1, 0), 6);
        due("the rest", p.part(0, 0, 2, 2, 0), 0);
        due("row 0", p.part(0, 0, 3, 1, 0), 0);
    }

    private static void placesThereAre() {
        dues.about("3, 4 UNKNOWN: there is no such place");
        int[][] sizes = {{1, 1}, {1, 16}, {16, 1}, {5, 3}, {3, 5}, {15, 4}, {16, 16}};
        for (int[] s : sizes) {
            PicturePath p = Pictures.sized(s[0], s[1]);
            for (int x = -1; x <= s[0]; x++) {
                boolean there = x >= 0 && x < s[0];
                due(s[0] + " by " + s[1] + ": cell(" + x + ", 0)", p.cell(x, 0, 0), there ? 0 : UNKNOWN);
                due("its last row", p.cell(x, s[1] - 1, 0), there ? 0 : UNKNOWN);
                due("behind its last row", p.cell(x, s[1], 0), UNKNOWN);
                due("dead in its last row", p.dead(x, s[1] - 1, true), there ? 0 : UNKNOWN);
                due("ahead of its first row", p.dead(x, -1, true), UNKNOWN);
            }
            for (int y = -1; y <= s[1]; y++) {
                boolean there = y >= 0 && y < s[1];
                due(s[0] + " by " + s[1] + ": cell(0, " + y + ")", p.cell(0, y, 0), there ? 0 : UNKNOWN);
                due("its last column", p.cell(s[0] - 1, y, 0), there ? 0 : UNKNOWN);
                due("behind its last column", p.dead(s[0], y, true), UNKNOWN);
                due("ahead of its first column", p.dead(-1, y, true), UNKNOWN);
            }
            due("dead ones", p.count(2), s[0]);
            due("greatest number", p.bound(0, 1), 0);
        }
    }

    private static void placesOfAnEarlierSizeAreGone() {
        dues.about("2 CELLS are W times H new ones, fewer than they were");
        PicturePath p = Pictures.flat(4, 4, 9);
        for (int i = 0; i < 4; i++) {
            p.dead(3, i, true);
            p.dead(i, 3, true);
        }
        p.size(3, 3);
        due("dead ones", p.count(2), 0);
        for (int i = 0; i < 4; i++) {
            due("cell(3, " + i + ")", p.cell(3, i, 1), UNKNOWN);
            due("dead(" + i + ", 3)", p.dead(i, 3, true), UNKNOWN);
            due("at(0, 3, " + i + ")", p.at(0, 3, i, 0), OUTSIDE);
        }
        p.size(4, 4);
        due("sum of new ones", p.part(0, 0, 4, 4, 0), 0);
        due("dead ones of new ones", p.count(2), 0);
    }

    private static void numbersAre0AtFirst() {
        dues.about("each has a number (0 at first)");
        PicturePath p = Pictures.sized(16, 16);
        for (int y = 0; y < 16; y++) {
            for (int x = 0; x < 16; x++) {
                due("at(0, " + x + ", " + y + ", 0)", p.at(0, x, y, 0), 0);
            }
        }
    }

    private static void noneIsDeadAtFirst() {
        dues.about("is DEAD or not, at first not");
        PicturePath p = Pictures.sized(16, 16);
        due("count(2)", p.count(2), 0);
        for (int y = 0; y < 16; y++) {
            for (int x = 0; x < 16; x++) {
                due("dead(" + x + ", " + y + ")", p.dead(x, y, false), 0);
            }
        }
    }

    private static void sizeMakesNewCells() {
        dues.about("2 CELLS are W times H new ones");
        PicturePath p = Pictures.flat(8, 8, 1023);
        for (int y = 0; y < 8; y++) {
            for (int x = 0; x < 8; x++) {
                p.dead(x, y, true);
            }
        }
        p.size(16, 16);
        due("dead ones", p.count(2), 0);
        due("greatest", p.bound(0, 1), 0);
        for (int y = 0; y < 8; y++) {
            for (int x = 0; x < 8; x++) {
                due("was (" + x + ", " + y + ")", p.cell(x, y, 0), 0);
                due("was dead (" + x + ", " + y + ")", p.dead(x, y, false), 0);
            }
        }
    }

    private static void theSameSizeMakesNewCells() {
        dues.about("2 CELLS are W times H new ones, of the same size");
        PicturePath p = Pictures.flat(3, 3, 5);
        p.dead(1, 1, true);
        due("size(3, 3)", p.size(3, 3), 9);
        due("sum", p.part(0, 0, 3, 3, 0), 0);
        due("dead ones", p.count(2), 0);
    }

    private static void sizeEmptiesThePath() {
        dues.about("2 the PATH is empty");
        PicturePath p = Pictures.sized(16, 16);
        Pictures.addAll(p, 0, 1, 2, 3, COLOURS, 5, 6, HALF, HALF, HALF);
        due("count(3) ahead", p.count(3), 10);
        due("size(2, 5)", p.size(2, 5), 10);
        due("count(3)", p.count(3), 0);
        due("kind(0)", p.kind(0), NONE);
        due("stage(1, 0)", p.stage(1, 0), UNKNOWN);
        int[] stage = {2, 5, 1, 0, 1};
        for (int what = 0; what < 5; what++) {
            due("stage(0, " + what + ")", p.stage(0, what), stage[what]);
        }
        due("one PLANE", p.bound(1, 0), OUTSIDE);
        due("undo()", p.undo(), STATE);
        due("a STEP for CELLS", p.step(MEND), 1);
        due("COLOURS", p.step(COLOURS), 2);
        due("STAGE 2 is as wide", p.stage(2, 0), 2);
        due("STAGE 2 is as high", p.stage(2, 1), 5);
    }

    private static void sizeLeavesTheNumbersAtHand() {
        dues.about("2 size tells of CELLS and the PATH alone");
        PicturePath p = new PicturePath();
        for (int i = 0; i < 9; i++) {
            p.entry(i, 100 + i);
        }
        for (int i = 0; i < 17; i++) {
            p.point(i, 200 + i);
        }
        p.size(4, 4);
        for (int i = 0; i < 9; i++) {
            due("entry(" + i + ")", p.entry(i, 0), 100 + i);
        }
        for (int i = 0; i < 17; i++) {
            due("point(" + i + ")", p.point(i, 0), 200 + i);
        }
    }

    private static void numbersAre0To1023() {
        dues.about("3 a number 0 to 1023");
        PicturePath p = Pictures.sized(2, 2);
        int[] right = {0, 1, 511, 512, 1022, 1023};
        for (int v : right) {
            p.cell(1, 0, v);
            due("at behind cell(1, 0, " + v + ")", p.at(0, 1, 0, 0), v);
        }
        due("the others", p.part(0, 1, 2, 1, 0) + p.at(0, 0, 0, 0), 0);
    }

    private static void numbersBeyond() {
        dues.about("3 OUTSIDE");
        PicturePath p = Pictures.flat(2, 2, 30);
        long before = p.digest();
        int[] wrong = {-1, 1024, 1025, 2048, 4095, -1023, 65536, LOW, HIGH};
        for (int v : wrong) {
            due("cell(1, 1, " + v + ")", p.cell(1, 1, v), OUTSIDE);
            due("at behind", p.at(0, 1, 1, 0), 30);
        }
        due("digest behind", p.digest(), before);
    }

    private static void cellAnswersWhatItWas() {
        dues.about("3 A CELL's number becomes v: what it was");
        PicturePath p = Pictures.sized(3, 3);
        int was = 0;
        int[] row = {1023, 0, 1, 1, 700, 1023};
        for (int v : row) {
            due("cell(2, 0, " + v + ")", p.cell(2, 0, v), was);
            was = v;
        }
        due("another CELL", p.cell(0, 2, 4), 0);
        due("behind a refused one", p.cell(2, 0, 1024), OUTSIDE);
        due("what it was still", p.cell(2, 0, 3), 1023);
    }

    private static void cellOfNoPlace() {
        dues.about("3 UNKNOWN");
        PicturePath p = Pictures.flat(3, 2, 8);
        long before = p.digest();
        for (int[] c : nowhere(3, 2)) {
            due("cell(" + c[0] + ", " + c[1] + ", 1)", p.cell(c[0], c[1], 1), UNKNOWN);
        }
        due("digest behind", p.digest(), before);
    }

    /** Places that lie outside, some of them such that an index made of them would lie inside. */
    private static int[][] nowhere(int w, int h) {
        return new int[][] {
            {w, 0}, {0, h}, {-1, 0}, {0, -1}, {w, h}, {-1, -1}, {w, -1}, {-1, h}, {-1, 1}, {16, 0}, {0, 16}, {-16, 1},
            {LOW, 0}, {0, LOW}, {HIGH, 0}, {0, HIGH}, {LOW, HIGH}, {HIGH, LOW}, {0, 1 << 28}, {1 << 28, 0},
        };
    }

    private static void cellUnknownAheadOfOutside() {
        dues.about("3 UNKNOWN, then OUTSIDE");
        PicturePath p = Pictures.sized(3, 2);
        for (int[] c : nowhere(3, 2)) {
            due("cell(" + c[0] + ", " + c[1] + ", 1024)", p.cell(c[0], c[1], 1024), UNKNOWN);
            due("cell(" + c[0] + ", " + c[1] + ", -1)", p.cell(c[0], c[1], -1), UNKNOWN);
        }
    }

    private static void aDeadCellHasItsNumber() {
        dues.about("each has a number, is DEAD or not");
        PicturePath p = Pictures.flat(2, 1, 40);
        p.dead(1, 0, true);
        due("at", p.at(0, 1, 0, 0), 40);
        due("cell", p.cell(1, 0, 50), 40);
        due("is DEAD still", p.dead(1, 0, true), 1);
        p.dead(1, 0, false);
        due("at, not DEAD", p.at(0, 1, 0, 0), 50);
        due("the other", p.dead(0, 0, false), 0);
    }

    private static void deadAnswersWhetherItWas() {
        dues.about("4 1 if it was, else 0");
        PicturePath p = Pictures.sized(2, 2);
        boolean was = false;
        boolean[] row = {true, true, false, false, true, false};
        for (boolean is : row) {
            due("dead(1, 1, " + is + ")", p.dead(1, 1, is), was ? 1 : 0);
            due("count(2)", p.count(2), is ? 1 : 0);
            was = is;
        }
    }

    private static void deadOfNoPlace() {
        dues.about("4 UNKNOWN");
        PicturePath p = Pictures.flat(3, 2, 8);
        p.dead(1, 1, true);
        long before = p.digest();
        for (int[] c : nowhere(3, 2)) {
            due("dead(" + c[0] + ", " + c[1] + ", true)", p.dead(c[0], c[1], true), UNKNOWN);
            due("dead(" + c[0] + ", " + c[1] + ", false)", p.dead(c[0], c[1], false), UNKNOWN);
        }
        due("count(2) behind", p.count(2), 1);
        due("digest behind", p.digest(), before);
    }

    private static void everyCellMayBeDead() {
        dues.about("20 DEAD ones");
        PicturePath p = Pictures.sized(16, 15);
        int many = 0;
        for (int y = 0; y < 15; y++) {
            for (int x = 0; x < 16; x++) {
                p.dead(x, y, true);
                many++;
                due("count(2)", p.count(2), many);
            }
        }
    }

    private static void countOfEachWhat() {
        dues.about("20 How many");
        PicturePath p = Pictures.sized(13, 6);
        p.dead(12, 5, true);
        p.dead(0, 5, true);
        p.dead(12, 0, true);
        p.black(1);
        p.black(1);
        due("count(0)", p.count(0), 13);
        due("count(1)", p.count(1), 6);
        due("count(2)", p.count(2), 3);
        due("count(3)", p.count(3), 2);
    }

    private static void countOfAnotherWhat() {
        dues.about("20 OUTSIDE");
        PicturePath p = Pictures.sized(13, 6);
        int[] wrong = {-1, 4, 5, LOW, HIGH, 1 << 30};
        for (int what : wrong) {
            due("count(" + what + ")", p.count(what), OUTSIDE);
        }
    }

    private static void countIsOfCells() {
        dues.about("20 width of CELLS, height, whatever the last STAGE is");
        PicturePath p = Pictures.sized(7, 5);
        p.dead(6, 4, true);
        p.step(MEND);
        p.step(COLOURS);
        p.step(HALF);
        due("count(0)", p.count(0), 7);
        due("count(1)", p.count(1), 5);
        due("count(2)", p.count(2), 1);
        due("count(3)", p.count(3), 3);
    }

    private static void theLastOf512Calls() {
        dues.about("used for at most 512 calls");
        PicturePath p = new PicturePath();
        p.size(16, 16);
        int calls = 1;
        for (int y = 0; y < 16; y++) {
            for (int x = 0; x < 16; x++) {
                p.cell(x, y, 1);
                calls++;
            }
        }
        for (int i = 1; calls < 507; i++) {
            due("call " + calls, p.cell(15, 15, i + 1), i);
            calls++;
        }
        due("call 508", p.gain(2000, 2000, 2000), 1);
        due("call 509", p.step(COLOURS), 2);
        due("call 510", p.step(HALF), 3);
        due("call 511", p.part(0, 0, 7, 7, 0), 98);
        due("call 512", p.bound(0, 0), 2);
    }
}
