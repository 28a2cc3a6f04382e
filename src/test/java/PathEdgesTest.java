/** The sentences on the path that name an edge: promises 5 to 13, and where a step may stand. */
public final class PathEdgesTest {
    private static final int NONE = -1, UNKNOWN = -101, OUTSIDE = -102, STATE = -103, FULL = -104;
    private static final int LOW = Integer.MIN_VALUE, HIGH = Integer.MAX_VALUE;
    private static final int BLACK = 0, GAIN = 1, MEND = 2, MIDDLE = 3, COLOURS = 4, MATRIX = 5, CURVE = 6, HALF = 7;
    private static final int KINDS = 8;
    private static final int MOST_STEPS = 10;

    private static final Dues dues = new Dues();

    public static void main(String[] args) {
        eachStepAnswersHowManyThereAre();
        blackIs0To1023();
        blackBeyond();
        gainsAre0To8000();
        gainsBeyond();
        stepTakesFourKinds();
        stepOfAnotherKind();
        entriesAtHand();
        entriesAreMinus4000To4000();
        entriesBeyond();
        entryOfNoNumber();
        entryUnknownAheadOfOutside();
        pointsAtHand();
        pointsAre0To4095();
        pointsBeyond();
        pointOfNoNumber();
        pointUnknownAheadOfOutside();
        matrixIsAsAtHand();
        curveIsAsAtHand();
        curveWithOneBelowTheOneAhead();
        curveWithOneLikeTheOneAhead();
        cellStepsStandAheadOfColours();
        colouredStepsStandBehindColours();
        coloursOnceAtMost();
        halfNeedsTwoAndMore();
        halfNeedsTwoAndMoreBehindTheStepsAhead();
        tenStepsAtMost();
        aTenthStepMayBeAnyThatMayStandThere();
        fullBehindState();
        outsideAheadOfState();
        outsideAheadOfFull();
        undoOfNone();
        undoTellsHowManyAreLeft();
        undoMakesRoom();
        undoOfColours();
        undoOfHalf();
        undoLeavesTheNumbersAtHand();
        aStepBehindAnUndoneOneHasItsOwnNumbers();
        kindOfEachStep();
        kindOfNone();
        dues.end();
    }

    private static void due(String call, long got, long want) {
        dues.due(call, got, want);
    }

    /** Ten steps, the first of them as told, the others of one kind. */
    private static PicturePath filled(PicturePath p, int kind, int... first) {
        Pictures.addAll(p, first);
        for (int i = p.count(3); i < MOST_STEPS; i++) {
            Pictures.add(p, kind);
        }
        return p;
    }

    private static void eachStepAnswersHowManyThereAre() {
        dues.about("5 to 11 how many STEPS there are");
        PicturePath p = Pictures.sized(8, 8);
        due("black(1)", p.black(1), 1);
        due("gain(1, 2, 3)", p.gain(1, 2, 3), 2);
        due("step(2)", p.step(MEND), 3);
        due("step(3)", p.step(MIDDLE), 4);
        due("step(4)", p.step(COLOURS), 5);
        due("matrix()", p.matrix(), 6);
        due("curve()", p.curve(), 7);
        due("step(7)", p.step(HALF), 8);
        due("step(7) again", p.step(HALF), 9);
        due("matrix() again", p.matrix(), 10);
    }

    private static void blackIs0To1023() {
        dues.about("5 BLACK k (0 to 1023)");
        int[] right = {0, 1, 511, 1022, 1023};
        for (int k : right) {
            PicturePath p = Pictures.flat(1, 1, 1023);
            due("black(" + k + ")", p.black(k), 1);
            due("at behind", p.at(1, 0, 0, 0), 1023 - k);
            due("kind(0)", p.kind(0), BLACK);
        }
    }

    private static void blackBeyond() {
        dues.about("5 OUTSIDE");
        PicturePath p = Pictures.flat(2, 2, 600);
        p.black(5);
        long before = p.digest();
        int[] wrong = {-1, 1024, 1025, 4095, -1023, 65536, LOW, HIGH};
        for (int k : wrong) {
            due("black(" + k + ")", p.black(k), OUTSIDE);
        }
        due("count(3) behind", p.count(3), 1);
        due("digest behind", p.digest(), before);
    }

    private static void gainsAre0To8000() {
        dues.about("6 GAIN r, g, b (0 to 8000)");
        int[] right = {0, 1, 1000, 7999, 8000};
        for (int v : right) {
            for (int colour = 0; colour < 3; colour++) {
                PicturePath p = Pictures.flat(2, 2, 500);
                int[] g = {1000, 1000, 1000};
                g[colour] = v;
                due("gain of " + v + " for " + colour, p.gain(g[0], g[1], g[2]), 1);
                due("at (0, 0)", p.at(1, 0, 0, 0), colour == 0 ? v / 2 : 500);
                due("at (1, 0)", p.at(1, 1, 0, 0), colour == 1 ? v / 2 : 500);
                due("at (0, 1)", p.at(1, 0, 1, 0), colour == 1 ? v / 2 : 500);
                due("at (1, 1)", p.at(1, 1, 1, 0), colour == 2 ? v / 2 : 500);
            }
        }
    }

    private static void gainsBeyond() {
        dues.about("6 OUTSIDE");
        PicturePath p = Pictures.flat(2, 2, 600);
        p.gain(1, 2, 3);
        long before = p.digest();
        int[] wrong = {-1, 8001, 8002, 16000, -8000, LOW, HIGH};
        for (int v : wrong) {
            due("gain(" + v + ", 0, 8000)", p.gain(v, 0, 8000), OUTSIDE);
            due("gain(0, " + v + ", 8000)", p.gain(0, v, 8000), OUTSIDE);
            due("gain(0, 8000, " + v + ")", p.gain(0, 8000, v), OUTSIDE);
            due("gain of it thrice", p.gain(v, v, v), OUTSIDE);
        }
        due("count(3) behind", p.count(3), 1);
        due("digest behind", p.digest(), before);
    }

    private static void stepTakesFourKinds() {
        dues.about("7 MEND (2), MIDDLE (3), COLOURS (4), HALF (7)");
        PicturePath p = Pictures.sized(2, 2);
        int[] right = {MEND, MIDDLE, COLOURS, HALF};
        for (int i = 0; i < 4; i++) {
            due("step(" + right[i] + ")", p.step(right[i]), i + 1);
            due("kind(" + i + ")", p.kind(i), right[i]);
        }
    }

    private static void stepOfAnotherKind() {
        dues.about("7 OUTSIDE: another kind");
        PicturePath cells = Pictures.sized(4, 4);
        PicturePath coloured = Pictures.sized(4, 4);
        coloured.step(COLOURS);
        int[] wrong = {BLACK, GAIN, MATRIX, CURVE, 8, 9, -1, -2, 10, 256 + MEND, 65536 + HALF, LOW, HIGH, LOW + MEND};
        for (int kind : wrong) {
            due("of CELLS: step(" + kind + ")", cells.step(kind), OUTSIDE);
            due("behind COLOURS: step(" + kind + ")", coloured.step(kind), OUTSIDE);
        }
        due("count(3) of CELLS", cells.count(3), 0);
        due("count(3) behind COLOURS", coloured.count(3), 1);
    }

    private static void entriesAtHand() {
        dues.about("8 Number i (0 to 8) of those at hand becomes v: what it was");
        PicturePath p = new PicturePath();
        int[] first = {1000, 0, 0, 0, 1000, 0, 0, 0, 1000};
        for (int i = 0; i < 9; i++) {
            due("entry(" + i + ") at first", p.entry(i, 10 + i), first[i]);
        }
        for (int i = 8; i >= 0; i--) {
            due("entry(" + i + ") again", p.entry(i, -i), 10 + i);
        }
        for (int i = 0; i < 9; i++) {
            due("entry(" + i + ") for the third time", p.entry(i, 0), -i);
        }
    }

    private static void entriesAreMinus4000To4000() {
        dues.about("8 m (nine numbers, -4000 to 4000)");
        PicturePath p = new PicturePath();
        int[] right = {-4000, -3999, -1, 0, 1, 3999, 4000};
        for (int i = 0; i < 9; i++) {
            for (int v : right) {
                p.entry(i, v);
                due("entry(" + i + ") behind " + v, p.entry(i, v), v);
            }
        }
    }

    private static void entriesBeyond() {
        dues.about("8 OUTSIDE: v");
        PicturePath p = new PicturePath();
        long before = p.digest();
        int[] wrong = {-4001, 4001, -4002, 4002, -8000, 65536, LOW, HIGH};
        for (int i = 0; i < 9; i++) {
            for (int v : wrong) {
                due("entry(" + i + ", " + v + ")", p.entry(i, v), OUTSIDE);
            }
        }
        due("digest behind", p.digest(), before);
    }

    private static void entryOfNoNumber() {
        dues.about("8 UNKNOWN: i");
        PicturePath p = new PicturePath();
        long before = p.digest();
        int[] nothing = {-1, 9, 10, 16, -9, 65536, LOW, HIGH};
        for (int i : nothing) {
            due("entry(" + i + ", 5)", p.entry(i, 5), UNKNOWN);
        }
        due("digest behind", p.digest(), before);
    }

    private static void entryUnknownAheadOfOutside() {
        dues.about("8 UNKNOWN, then OUTSIDE");
        PicturePath p = new PicturePath();
        int[] nothing = {-1, 9, LOW, HIGH};
        for (int i : nothing) {
            due("entry(" + i + ", 4001)", p.entry(i, 4001), UNKNOWN);
            due("entry(" + i + ", -4001)", p.entry(i, -4001), UNKNOWN);
        }
    }

    private static void pointsAtHand() {
        dues.about("10 Number i (0 to 16) of those at hand becomes v: what it was");
        PicturePath p = new PicturePath();
        for (int i = 0; i < 17; i++) {
            due("point(" + i + ") at first", p.point(i, 10 + i), i == 16 ? 4095 : 256 * i);
        }
        for (int i = 16; i >= 0; i--) {
            due("point(" + i + ") again", p.point(i, 50 - i), 10 + i);
        }
        for (int i = 0; i < 17; i++) {
            due("point(" + i + ") for the third time", p.point(i, 0), 50 - i);
        }
    }

    private static void pointsAre0To4095() {
        dues.about("10 t (17 numbers, 0 to 4095)");
        PicturePath p = new PicturePath();
        int[] right = {0, 1, 256, 1024, 4094, 4095};
        for (int i = 0; i < 17; i++) {
            for (int v : right) {
                p.point(i, v);
                due("point(" + i + ") behind " + v, p.point(i, v), v);
            }
        }
    }

    private static void pointsBeyond() {
        dues.about("10 OUTSIDE: v");
        PicturePath p = new PicturePath();
        long before = p.digest();
        int[] wrong = {-1, 4096, 4097, -4095, 65536, LOW, HIGH};
        for (int i = 0; i < 17; i++) {
            for (int v : wrong) {
                due("point(" + i + ", " + v + ")", p.point(i, v), OUTSIDE);
            }
        }
        due("digest behind", p.digest(), before);
    }

    private static void pointOfNoNumber() {
        dues.about("10 UNKNOWN: i");
        PicturePath p = new PicturePath();
        long before = p.digest();
        int[] nothing = {-1, 17, 18, -17, 65536, LOW, HIGH};
        for (int i : nothing) {
            due("point(" + i + ", 5)", p.point(i, 5), UNKNOWN);
        }
        due("digest behind", p.digest(), before);
    }

    private static void pointUnknownAheadOfOutside() {
        dues.about("10 UNKNOWN, then OUTSIDE");
        PicturePath p = new PicturePath();
        int[] nothing = {-1, 17, LOW, HIGH};
        for (int i : nothing) {
            due("point(" + i + ", 4096)", p.point(i, 4096), UNKNOWN);
            due("point(" + i + ", -1)", p.point(i, -1), UNKNOWN);
        }
    }

    private static void matrixIsAsAtHand() {
        dues.about("9 MATRIX, as at hand");
        PicturePath p = Pictures.flat(2, 2, 100);
        p.step(COLOURS);
        p.entry(0, 2000);
        p.entry(4, 3000);
        p.matrix();
        due("plane 0", p.at(2, 0, 0, 0), 200);
        due("plane 1", p.at(2, 0, 0, 1), 300);
        due("plane 2", p.at(2, 0, 0, 2), 100);
        p.entry(0, 500);
        due("plane 0, once something else is at hand", p.at(2, 0, 0, 0), 200);
        p.matrix();
        due("plane 0 behind two", p.at(3, 0, 0, 0), 100);
        due("plane 1 behind two", p.at(3, 0, 0, 1), 900);
        due("plane 0 behind the first still", p.at(2, 0, 0, 0), 200);
        due("still at hand", p.entry(0, 0), 500);
    }

    private static void curveIsAsAtHand() {
        dues.about("11 CURVE, as at hand");
        PicturePath p = Pictures.flat(2, 2, 256);
        p.step(COLOURS);
        p.point(1, 400);
        p.curve();
        due("behind it", p.at(2, 1, 1, 0), 400);
        p.point(1, 300);
        due("once something else is at hand", p.at(2, 1, 1, 0), 400);
        p.undo();
        p.curve();
        due("behind another", p.at(2, 1, 1, 0), 300);
        due("still at hand", p.point(1, 0), 300);
    }

    private static void curveWithOneBelowTheOneAhead() {
        dues.about("11 OUTSIDE: one is below the one ahead");
        for (int i = 1; i < 17; i++) {
            PicturePath p = Pictures.sized(2, 2);
            p.step(COLOURS);
            long ahead = p.digest();
            int first = i == 16 ? 4095 : 256 * i;
            p.point(i, 256 * (i - 1) - (i == 1 ? 0 : 1));
            if (i == 1) {
                p.point(0, 1);
            }
            long before = p.digest();
            due("curve() with number " + i + " below", p.curve(), OUTSIDE);
            due("count(3) behind", p.count(3), 1);
            due("digest behind", p.digest(), before);
            p.point(i, first);
            p.point(0, 0);
            due("digest of the first numbers", p.digest(), ahead);
            due("curve() of the first numbers", p.curve(), 2);
        }
        PicturePath p = Pictures.sized(2, 2);
        p.step(COLOURS);
        p.point(0, 4095);
        due("curve() with the first above all but the last", p.curve(), OUTSIDE);
        p.point(0, 0);
        p.point(16, 0);
        due("curve() with the last below all but the first", p.curve(), OUTSIDE);
    }

    private static void curveWithOneLikeTheOneAhead() {
        dues.about("11 none below the one ahead, but like it");
        for (int i = 1; i < 17; i++) {
            PicturePath p = Pictures.sized(2, 2);
            p.step(COLOURS);
            p.point(i, 256 * (i - 1));
            due("curve() with number " + i + " alike", p.curve(), 2);
        }
        int[] levels = {0, 4095};
        for (int level : levels) {
            PicturePath p = Pictures.sized(2, 2);
            p.step(COLOURS);
            for (int i = 0; i < 17; i++) {
                p.point(i, level);
            }
            due("curve() of " + level + " alone", p.curve(), 2);
            due("at behind", p.at(2, 1, 0, 2), level);
        }
    }

    private static void cellStepsStandAheadOfColours() {
        dues.about("STEPS 0 to 3 are for CELLS alone");
        for (int kind = BLACK; kind <= MIDDLE; kind++) {
            for (int ahead = BLACK; ahead <= MIDDLE; ahead++) {
                PicturePath p = Pictures.sized(4, 4);
                Pictures.add(p, ahead);
                due(kind + " behind " + ahead, Pictures.add(p, kind), 2);
            }
            due(kind + " as the first", Pictures.add(Pictures.sized(1, 1), kind), 1);
            PicturePath p = Pictures.sized(4, 4);
            int[] coloured = {COLOURS, MATRIX, CURVE, HALF};
            for (int i = 0; i < coloured.length; i++) {
                Pictures.add(p, coloured[i]);
                due(kind + " behind " + coloured[i], Pictures.add(p, kind), STATE);
                due("count(3) behind", p.count(3), i + 1);
            }
        }
    }

    private static void colouredStepsStandBehindColours() {
        dues.about("STEPS 5 to 7 behind COLOURS alone");
        for (int kind = MATRIX; kind <= HALF; kind++) {
            PicturePath p = Pictures.sized(16, 16);
            due(kind + " as the first", Pictures.add(p, kind), STATE);
            for (int ahead = BLACK; ahead <= MIDDLE; ahead++) {
                Pictures.add(p, ahead);
                due(kind + " behind " + ahead, Pictures.add(p, kind), STATE);
                due("count(3) behind", p.count(3), ahead + 1);
            }
            Pictures.add(p, COLOURS);
            due(kind + " behind COLOURS", Pictures.add(p, kind), 6);
            for (int ahead = MATRIX; ahead <= HALF; ahead++) {
                PicturePath q = Pictures.sized(16, 16);
                Pictures.addAll(q, COLOURS, ahead);
                due(kind + " behind " + ahead, Pictures.add(q, kind), 3);
            }
        }
    }

    private static void coloursOnceAtMost() {
        dues.about("COLOURS there is once at most");
        PicturePath p = Pictures.sized(4, 4);
        due("step(4)", p.step(COLOURS), 1);
        due("step(4) again", p.step(COLOURS), STATE);
        int[] behind = {MATRIX, CURVE, HALF};
        for (int kind : behind) {
            Pictures.add(p, kind);
            due("step(4) behind " + kind, p.step(COLOURS), STATE);
        }
        due("count(3)", p.count(3), 4);
        for (int ahead = BLACK; ahead <= MIDDLE; ahead++) {
            PicturePath q = Pictures.sized(4, 4);
            Pictures.add(q, ahead);
            due("step(4) behind " + ahead, q.step(COLOURS), 2);
        }
    }

    private static void halfNeedsTwoAndMore() {
        dues.about("HALF needs W and H of 2 and more");
        for (int w = 1; w <= 16; w++) {
            for (int h = 1; h <= 16; h++) {
                PicturePath p = Pictures.sized(w, h);
                p.step(COLOURS);
                long before = p.digest();
                boolean may = w >= 2 && h >= 2;
                due("of " + w + " by " + h, p.step(HALF), may ? 2 : STATE);
                if (!may) {
                    due("digest behind", p.digest(), before);
                }
            }
        }
    }

    private static void halfNeedsTwoAndMoreBehindTheStepsAhead() {
        dues.about("HALF: behind the STEPS ahead of it");
        for (int w = 1; w <= 16; w++) {
            for (int h = 1; h <= 16; h++) {
                PicturePath p = Pictures.sized(w, h);
                p.step(COLOURS);
                int steps = 1;
                for (int side = Math.min(w, h); side >= 2; side /= 2) {
                    steps++;
                    due("of " + w + " by " + h, p.step(HALF), steps);
                    steps++;
                    due("between", p.matrix(), steps);
                }
                due("of " + w + " by " + h + ", no more", p.step(HALF), STATE);
                due("count(3)", p.count(3), steps);
            }
        }
    }

    private static void tenStepsAtMost() {
        dues.about("A PATH is a row of STEPS (10 at most); FULL");
        for (int kind = BLACK; kind <= COLOURS; kind++) {
            PicturePath p = filled(Pictures.flat(2, 2, 9), MEND);
            long before = p.digest();
            due(kind + " as the eleventh", Pictures.add(p, kind), FULL);
            due("again", Pictures.add(p, kind), FULL);
            due("count(3) behind", p.count(3), MOST_STEPS);
            due("kind(9) behind", p.kind(9), MEND);
            due("digest behind", p.digest(), before);
        }
        for (int kind = MATRIX; kind <= HALF; kind++) {
            PicturePath p = filled(Pictures.flat(2, 2, 9), CURVE, COLOURS);
            long before = p.digest();
            due(kind + " as the eleventh", Pictures.add(p, kind), FULL);
            due("again", Pictures.add(p, kind), FULL);
            due("count(3) behind", p.count(3), MOST_STEPS);
            due("kind(9) behind", p.kind(9), CURVE);
            due("digest behind", p.digest(), before);
        }
    }

    private static void aTenthStepMayBeAnyThatMayStandThere() {
        dues.about("A PATH is a row of STEPS (10 at most), the tenth");
        for (int kind = 0; kind < KINDS; kind++) {
            PicturePath p = Pictures.sized(3, 3);
            Pictures.addAll(p, 0, 1, 2, 3, 0, 1, 2, 3);
            Pictures.add(p, kind <= COLOURS ? BLACK : COLOURS);
            due(kind + " as the tenth", Pictures.add(p, kind), MOST_STEPS);
            due("kind(9)", p.kind(9), kind);
            due("stage(10, 0)", p.stage(10, 0), kind == HALF ? 1 : 3);
            due("stage(10, 2)", p.stage(10, 2), kind <= MIDDLE ? 1 : 3);
            due("at(10, ..)", p.at(10, 0, 0, 0), 0);
        }
    }

    private static void fullBehindState() {
        dues.about("STATE, if a STEP may not stand there; FULL behind that");
        PicturePath cells = filled(Pictures.sized(4, 4), BLACK);
        due("matrix()", cells.matrix(), STATE);
        due("curve()", cells.curve(), STATE);
        due("step(7)", cells.step(HALF), STATE);
        due("step(4)", cells.step(COLOURS), FULL);
        due("count(3)", cells.count(3), MOST_STEPS);
        PicturePath coloured = filled(Pictures.sized(4, 4), MATRIX, COLOURS);
        due("black(1)", coloured.black(1), STATE);
        due("gain(1, 1, 1)", coloured.gain(1, 1, 1), STATE);
        due("step(2)", coloured.step(MEND), STATE);
        due("step(3)", coloured.step(MIDDLE), STATE);
        due("step(4)", coloured.step(COLOURS), STATE);
        due("step(7)", coloured.step(HALF), FULL);
        due("count(3)", coloured.count(3), MOST_STEPS);
        PicturePath narrow = filled(Pictures.sized(1, 4), MATRIX, COLOURS);
        due("step(7) of a width of 1", narrow.step(HALF), STATE);
        PicturePath low = filled(Pictures.sized(4, 4), MATRIX, COLOURS, HALF, HALF);
        due("step(7) of a width that has become 1", low.step(HALF), STATE);
    }

    private static void outsideAheadOfState() {
        dues.about("OUTSIDE; STATE");
        PicturePath p = Pictures.sized(4, 4);
        p.step(COLOURS);
        due("black(1024)", p.black(1024), OUTSIDE);
        due("black(-1)", p.black(-1), OUTSIDE);
        due("black(1023)", p.black(1023), STATE);
        due("gain(8001, 0, 0)", p.gain(8001, 0, 0), OUTSIDE);
        due("gain(0, -1, 0)", p.gain(0, -1, 0), OUTSIDE);
        due("gain(0, 0, 8001)", p.gain(0, 0, 8001), OUTSIDE);
        due("gain(8000, 0, 8000)", p.gain(8000, 0, 8000), STATE);
        due("step(0)", p.step(BLACK), OUTSIDE);
        due("step(1)", p.step(GAIN), OUTSIDE);
        due("step(2)", p.step(MEND), STATE);
        PicturePath cells = Pictures.sized(4, 4);
        due("step(5)", cells.step(MATRIX), OUTSIDE);
        due("step(6)", cells.step(CURVE), OUTSIDE);
        due("step(7)", cells.step(HALF), STATE);
        due("curve()", cells.curve(), STATE);
        cells.point(1, 513);
        due("curve(), one below", cells.curve(), OUTSIDE);
    }

    private static void outsideAheadOfFull() {
        dues.about("OUTSIDE; FULL");
        PicturePath cells = filled(Pictures.sized(4, 4), BLACK);
        due("black(1024)", cells.black(1024), OUTSIDE);
        due("black(1023)", cells.black(1023), FULL);
        due("gain(0, 8001, 0)", cells.gain(0, 8001, 0), OUTSIDE);
        due("gain(0, 8000, 0)", cells.gain(0, 8000, 0), FULL);
        due("step(8)", cells.step(8), OUTSIDE);
        due("step(3)", cells.step(MIDDLE), FULL);
        cells.point(16, 0);
        due("curve(), one below, a STEP that may not stand there", cells.curve(), OUTSIDE);
        PicturePath coloured = filled(Pictures.sized(4, 4), MATRIX, COLOURS);
        due("curve()", coloured.curve(), FULL);
        coloured.point(16, 0);
        due("curve(), one below", coloured.curve(), OUTSIDE);
        due("step(6)", coloured.step(CURVE), OUTSIDE);
    }

    private static void undoOfNone() {
        dues.about("12 STATE: there is none");
        PicturePath p = new PicturePath();
        long before = p.digest();
        due("undo()", p.undo(), STATE);
        due("undo() again", p.undo(), STATE);
        due("count(3)", p.count(3), 0);
        due("digest", p.digest(), before);
        due("black(1)", p.black(1), 1);
        due("undo()", p.undo(), 0);
        due("undo() of none again", p.undo(), STATE);
        due("digest again", p.digest(), before);
    }

    private static void undoTellsHowManyAreLeft() {
        dues.about("12 The last STEP goes: how many are left");
        PicturePath p = Pictures.sloping(4, 4, 3);
        long[] digests = new long[MOST_STEPS];
        int[] kinds = {BLACK, GAIN, MEND, MIDDLE, COLOURS, MATRIX, CURVE, HALF, MATRIX, HALF};
        for (int i = 0; i < MOST_STEPS; i++) {
            digests[i] = p.digest();
            Pictures.add(p, kinds[i]);
        }
        for (int left = MOST_STEPS - 1; left >= 0; left--) {
            due("undo()", p.undo(), left);
            due("count(3)", p.count(3), left);
            due("kind(" + left + ")", p.kind(left), NONE);
            due("stage(" + (left + 1) + ", 0)", p.stage(left + 1, 0), UNKNOWN);
            due("digest", p.digest(), digests[left]);
        }
        due("undo() of none", p.undo(), STATE);
    }

    private static void undoMakesRoom() {
        dues.about("12 The last STEP goes, of ten");
        PicturePath p = filled(Pictures.sized(2, 2), BLACK);
        due("black(1)", p.black(1), FULL);
        due("undo()", p.undo(), 9);
        due("black(1)", p.black(1), 10);
        due("black(1) again", p.black(1), FULL);
    }

    private static void undoOfColours() {
        dues.about("12 The last STEP goes, COLOURS");
        PicturePath p = Pictures.sized(2, 2);
        p.step(COLOURS);
        due("black(1) behind COLOURS", p.black(1), STATE);
        due("undo()", p.undo(), 0);
        due("one PLANE", p.bound(1, 0), OUTSIDE);
        due("matrix()", p.matrix(), STATE);
        due("black(1)", p.black(1), 1);
        due("COLOURS again", p.step(COLOURS), 2);
        due("three PLANES", p.bound(2, 0), 0);
    }

    private static void undoOfHalf() {
        dues.about("12 The last STEP goes, HALF");
        PicturePath p = Pictures.sized(3, 2);
        p.step(COLOURS);
        p.step(HALF);
        due("at(2, 1, 0, 0)", p.at(2, 1, 0, 0), OUTSIDE);
        due("HALF again", p.step(HALF), STATE);
        due("undo()", p.undo(), 1);
        due("a part of all", p.part(0, 0, 3, 2, 2), 0);
        due("width", p.stage(1, 0), 3);
        due("scale", p.stage(1, 4), 1);
        due("HALF may stand there", p.step(HALF), 2);
        due("scale behind it", p.stage(2, 4), 2);
        due("lag behind it", p.stage(2, 3), 2);
    }

    private static void undoLeavesTheNumbersAtHand() {
        dues.about("12 The last STEP goes, and nothing else");
        PicturePath p = Pictures.sized(2, 2);
        p.step(COLOURS);
        p.entry(1, 77);
        p.matrix();
        p.point(2, 555);
        p.curve();
        p.entry(1, 78);
        p.point(2, 556);
        p.undo();
        p.undo();
        p.undo();
        due("entry(1)", p.entry(1, 0), 78);
        due("point(2)", p.point(2, 0), 556);
        due("width", p.count(0), 2);
    }

    private static void aStepBehindAnUndoneOneHasItsOwnNumbers() {
        dues.about("12 The last STEP goes, with its numbers");
        PicturePath p = Pictures.flat(1, 1, 500);
        p.gain(2000, 2000, 2000);
        p.undo();
        p.black(100);
        due("black behind gain", p.at(1, 0, 0, 0), 400);
        due("kind(0)", p.kind(0), BLACK);
        p.undo();
        p.gain(500, 1000, 1000);
        due("gain behind black", p.at(1, 0, 0, 0), 250);
        p.undo();
        p.step(COLOURS);
        p.entry(0, 2000);
        p.matrix();
        p.undo();
        p.curve();
        due("curve behind matrix", p.at(2, 0, 0, 0), 500);
        p.undo();
        p.matrix();
        due("matrix behind curve", p.at(2, 0, 0, 0), 1000);
    }

    private static void kindOfEachStep() {
        dues.about("13 The kind of STEP k");
        PicturePath p = Pictures.sized(4, 4);
        int[] kinds = {BLACK, GAIN, MEND, MIDDLE, COLOURS, MATRIX, CURVE, HALF, HALF, CURVE};
        for (int i = 0; i < kinds.length; i++) {
            due("kind(" + i + ") ahead", p.kind(i), NONE);
            Pictures.add(p, kinds[i]);
            for (int k = 0; k <= i; k++) {
                due("kind(" + k + ")", p.kind(k), kinds[k]);
            }
        }
    }

    private static void kindOfNone() {
        dues.about("13 NONE");
        PicturePath empty = new PicturePath();
        PicturePath one = new PicturePath();
        one.step(MEND);
        PicturePath full = filled(new PicturePath(), BLACK);
        int[] nothing = {-1, -2, 10, 11, LOW, HIGH};
        for (int k : nothing) {
            due("empty: kind(" + k + ")", empty.kind(k), NONE);
            due("one: kind(" + k + ")", one.kind(k), NONE);
            due("full: kind(" + k + ")", full.kind(k), NONE);
        }
        due("empty: kind(0)", empty.kind(0), NONE);
        due("one: kind(0)", one.kind(0), MEND);
        due("one: kind(1)", one.kind(1), NONE);
        due("full: kind(9)", full.kind(9), BLACK);
    }
}
