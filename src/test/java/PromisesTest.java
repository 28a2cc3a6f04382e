/** Each promise of the document by hand: ordinary inputs, its edges, and its refusals in order. */
public final class PromisesTest {
    private static final int NONE = -1, UNKNOWN = -101, OUTSIDE = -102, STATE = -103, FULL = -104;
    private static final int MEND = 2, MIDDLE = 3, COLOURS = 4, HALF = 7;
    private static final int LOW = Integer.MIN_VALUE, HIGH = Integer.MAX_VALUE;

    private static final Dues dues = new Dues();

    public static void main(String[] args) {
        promise1NewObject();
        promise2Size();
        promise3Cell();
        promise4Dead();
        promise5Black();
        promise6Gain();
        promise7Step();
        promise7Mend();
        promise7Middle();
        promise7Colours();
        promise7Half();
        promise8Entry();
        promise9Matrix();
        promise10Point();
        promise11Curve();
        promise12Undo();
        promise13Kind();
        promise14Stage();
        promise15At();
        promise16Part();
        promise17Needs();
        promise18Counts();
        promise19Bound();
        promise20Count();
        promise21Digest();
        stateIsToldAheadOfFull();
        dues.end();
    }

    private static void due(String call, long got, long want) {
        dues.due(call, got, want);
    }

    private static void promise1NewObject() {
        PicturePath p = new PicturePath();
        due("1 width", p.count(0), 1);
        due("1 height", p.count(1), 1);
        due("1 dead ones", p.count(2), 0);
        due("1 steps", p.count(3), 0);
        due("1 number", p.at(0, 0, 0, 0), 0);
        due("1 not dead", p.dead(0, 0, false), 0);
        int[] stage = {1, 1, 1, 0, 1};
        for (int what = 0; what < 5; what++) {
            due("1 stage 0, " + what, p.stage(0, what), stage[what]);
        }
        due("1 no stage 1", p.stage(1, 0), UNKNOWN);
        due("1 nothing beside it", p.part(0, 0, 2, 1, 0), OUTSIDE);
        due("1 nothing below it", p.part(0, 0, 1, 2, 0), OUTSIDE);
        due("1 no second column", p.cell(1, 0, 0), UNKNOWN);
        due("1 no second row", p.cell(0, 1, 0), UNKNOWN);
    }

    private static void promise2Size() {
        PicturePath p = new PicturePath();
        due("2 size(1, 1)", p.size(1, 1), 1);
        due("2 size(16, 16)", p.size(16, 16), 256);
        due("2 size(16, 1)", p.size(16, 1), 16);
        due("2 size(3, 7)", p.size(3, 7), 21);
        due("2 width", p.count(0), 3);
        due("2 height", p.count(1), 7);

        p.cell(2, 6, 77);
        p.dead(1, 1, true);
        p.entry(0, 5);
        p.point(0, 6);
        p.black(1);
        long before = p.digest();
        int[] wrong = {0, 17, -1, LOW, HIGH};
        for (int side : wrong) {
            due("2 size w " + side, p.size(side, 3), OUTSIDE);
            due("2 size h " + side, p.size(3, side), OUTSIDE);
        }
        due("2 refusals change nothing", p.digest(), before);

        due("2 size again", p.size(3, 7), 21);
        due("2 cells are new", p.cell(2, 6, 0), 0);
        due("2 none is dead", p.dead(1, 1, false), 0);
        due("2 the path is empty", p.count(3), 0);
        due("2 the matrix at hand stays", p.entry(0, 5), 5);
        due("2 the curve at hand stays", p.point(0, 6), 6);
        due("2 smaller", p.size(2, 2), 4);
        due("2 larger again", p.size(16, 16), 256);
        due("2 all are new", p.bound(0, 1), 0);
    }

    private static void promise3Cell() {
        PicturePath p = new PicturePath();
        p.size(3, 2);
        due("3 first", p.cell(2, 1, 1023), 0);
        due("3 what it was", p.cell(2, 1, 0), 1023);
        due("3 again", p.cell(2, 1, 5), 0);
        due("3 its neighbour is another", p.cell(1, 1, 9), 0);
        long before = p.digest();
        int[][] nowhere = {{3, 0}, {0, 2}, {-1, 0}, {0, -1}, {LOW, 0}, {0, HIGH}, {HIGH, LOW}};
        for (int[] place : nowhere) {
            due("3 no place", p.cell(place[0], place[1], 1), UNKNOWN);
            due("3 UNKNOWN ahead of OUTSIDE", p.cell(place[0], place[1], 1024), UNKNOWN);
        }
        int[] wrong = {-1, 1024, LOW, HIGH};
        for (int v : wrong) {
            due("3 number " + v, p.cell(2, 1, v), OUTSIDE);
        }
        due("3 refusals change nothing", p.digest(), before);
        due("3 at", p.at(0, 2, 1, 0), 5);
        due("3 a made picture follows", p.black(2), 1);
        due("3 made", p.at(1, 2, 1, 0), 3);
        p.cell(2, 1, 10);
        due("3 made anew", p.at(1, 2, 1, 0), 8);
    }

    private static void promise4Dead() {
        PicturePath p = new PicturePath();
        p.size(2, 3);
        due("4 was not", p.dead(1, 2, true), 0);
        due("4 was", p.dead(1, 2, true), 1);
        due("4 count", p.count(2), 1);
        due("4 was, goes", p.dead(1, 2, false), 1);
        due("4 gone", p.dead(1, 2, false), 0);
        due("4 none", p.count(2), 0);
        long before = p.digest();
        int[][] nowhere = {{2, 0}, {0, 3}, {-1, 0}, {0, -1}, {LOW, LOW}, {HIGH, HIGH}};
        for (int[] place : nowhere) {
            due("4 no place", p.dead(place[0], place[1], true), UNKNOWN);
        }
        due("4 refusals change nothing", p.digest(), before);
    }

    private static void promise5Black() {
        PicturePath p = new PicturePath();
        p.size(2, 1);
        p.cell(0, 0, 100);
        p.cell(1, 0, 1023);
        due("5 black(0)", p.black(0), 1);
        due("5 nothing off", p.at(1, 0, 0, 0), 100);
        due("5 black(101)", p.black(101), 2);
        due("5 at least 0", p.at(2, 0, 0, 0), 0);
        due("5 less k", p.at(2, 1, 0, 0), 922);
        due("5 black(1023)", p.black(1023), 3);
        due("5 all off", p.bound(0, 1), 0);
        due("5 k -1", p.black(-1), OUTSIDE);
        due("5 k 1024", p.black(1024), OUTSIDE);
        due("5 k low", p.black(LOW), OUTSIDE);
        due("5 k high", p.black(HIGH), OUTSIDE);
        p.step(COLOURS);
        due("5 behind colours", p.black(1), STATE);
        due("5 OUTSIDE ahead of STATE", p.black(1024), OUTSIDE);
        due("5 refusals change nothing", p.count(3), 4);
        fill(p, 4);
        due("5 STATE ahead of FULL", p.black(1), STATE);

        PicturePath full = new PicturePath();
        for (int i = 1; i <= 10; i++) {
            due("5 step " + i, full.black(i), i);
        }
        due("5 eleventh", full.black(1), FULL);
        due("5 OUTSIDE ahead of FULL", full.black(1024), OUTSIDE);
        due("5 still ten", full.count(3), 10);
    }

    private static void promise6Gain() {
        PicturePath p = Pictures.flat(2, 2, 999);
        due("6 gain", p.gain(0, 1500, 8000), 1);
        due("6 colour 0", p.at(1, 0, 0, 0), 0);
        due("6 colour 1 right", p.at(1, 1, 0, 0), 1498);
        due("6 colour 1 down", p.at(1, 0, 1, 0), 1498);
        due("6 colour 2, no more than 4095", p.at(1, 1, 1, 0), 4095);
        due("6 gain by one", p.gain(1000, 1000, 1000), 2);
        due("6 as it was", p.at(2, 1, 0, 0), 1498);
        int[] wrong = {-1, 8001, LOW, HIGH};
        for (int v : wrong) {
            due("6 r " + v, p.gain(v, 0, 0), OUTSIDE);
            due("6 g " + v, p.gain(0, v, 0), OUTSIDE);
            due("6 b " + v, p.gain(0, 0, v), OUTSIDE);
        }
        p.step(COLOURS);
        due("6 behind colours", p.gain(1, 1, 1), STATE);
        due("6 OUTSIDE ahead of STATE", p.gain(1, 1, 8001), OUTSIDE);

        PicturePath full = new PicturePath();
        for (int i = 1; i <= 10; i++) {
            due("6 step " + i, full.gain(8000, 8000, 8000), i);
        }
        due("6 eleventh", full.gain(1, 1, 1), FULL);
        due("6 OUTSIDE ahead of FULL", full.gain(1, -1, 1), OUTSIDE);
        due("6 still ten", full.count(3), 10);
    }

    private static void promise7Step() {
        PicturePath p = Pictures.flat(4, 4, 1);
        int[] wrong = {0, 1, 5, 6, 8, -1, LOW, HIGH};
        for (int kind : wrong) {
            due("7 kind " + kind, p.step(kind), OUTSIDE);
        }
        due("7 half ahead of colours", p.step(HALF), STATE);
        due("7 mend", p.step(MEND), 1);
        due("7 middle", p.step(MIDDLE), 2);
        due("7 mend again", p.step(MEND), 3);
        due("7 colours", p.step(COLOURS), 4);
        due("7 colours twice", p.step(COLOURS), STATE);
        due("7 mend behind colours", p.step(MEND), STATE);
        due("7 middle behind colours", p.step(MIDDLE), STATE);
        due("7 a wrong kind behind colours", p.step(0), OUTSIDE);
        due("7 half", p.step(HALF), 5);
        due("7 colours behind half", p.step(COLOURS), STATE);
        due("7 half again", p.step(HALF), 6);
        due("7 nothing left to halve", p.step(HALF), STATE);
        due("7 refusals change nothing", p.count(3), 6);
        fill(p, 6);
        due("7 STATE ahead of FULL", p.step(COLOURS), STATE);
        due("7 half: STATE ahead of FULL", p.step(HALF), STATE);
        due("7 OUTSIDE ahead of FULL", p.step(8), OUTSIDE);

        PicturePath full = Pictures.flat(2, 2, 1);
        for (int i = 1; i <= 10; i++) {
            due("7 step " + i, full.step(i % 2 == 0 ? MEND : MIDDLE), i);
        }
        due("7 eleventh mend", full.step(MEND), FULL);
        due("7 eleventh middle", full.step(MIDDLE), FULL);
        due("7 eleventh colours", full.step(COLOURS), FULL);
        due("7 eleventh half, not behind colours", full.step(HALF), STATE);
    }

    private static void promise7Mend() {
        PicturePath p = Pictures.sloping(5, 5, 0);
        p.cell(2, 2, 999);
        p.cell(0, 2, 201);
        p.dead(2, 2, true);
        p.step(MEND);
        due("7 mend of four, rounded down", p.at(1, 2, 2, 0), (201 + 240 + 20 + 420) / 4);
        p.dead(4, 2, true);
        due("7 mend of three", p.at(1, 2, 2, 0), (201 + 20 + 420) / 3);
        due("7 a dead neighbour is mended by itself", p.at(1, 4, 2, 0), (40 + 440) / 2);
        due("7 the live stay", p.at(1, 3, 2, 0), 230);
        p.dead(0, 2, true);
        p.dead(2, 0, true);
        due("7 mend of one", p.at(1, 2, 2, 0), 420);
        p.dead(2, 4, true);
        due("7 without any it stays", p.at(1, 2, 2, 0), 999);
        due("7 by those of the picture ahead", p.at(1, 0, 2, 0), (0 + 400) / 2);

        PicturePath again = Pictures.flat(5, 1, 0);
        again.cell(4, 0, 80);
        again.dead(0, 0, true);
        again.dead(2, 0, true);
        again.cell(0, 0, 7);
        again.cell(2, 0, 9);
        again.step(MEND);
        again.step(MEND);
        due("7 mended cells are still dead", again.at(2, 0, 0, 0), 7);
        due("7 mend at the edge", again.at(2, 2, 0, 0), 80);
    }

    private static void promise7Middle() {
        PicturePath p = Pictures.flat(5, 5, 50);
        p.cell(2, 2, 1000);
        p.step(MIDDLE);
        due("7 spike out", p.at(1, 2, 2, 0), 50);
        p.cell(0, 2, 10);
        p.cell(4, 2, 20);
        p.cell(2, 0, 30);
        p.cell(2, 4, 40);
        due("7 the third of 10 20 30 40 1000", p.at(1, 2, 2, 0), 30);
        p.cell(2, 2, 25);
        due("7 its own is the third", p.at(1, 2, 2, 0), 25);
        due("7 corner: two at most are others", p.at(1, 0, 0, 0), 50);
        p.cell(0, 0, 777);
        due("7 corner: its own three times", p.at(1, 0, 0, 0), 777);
        p.cell(2, 0, 900);
        p.cell(2, 2, 60);
        p.cell(4, 0, 70);
        due("7 side: 900 900 777 60 70", p.at(1, 2, 0, 0), 777);
        p.dead(2, 2, true);
        due("7 dead ones count like others", p.at(1, 2, 0, 0), 777);
    }

    private static void promise7Colours() {
        PicturePath p = Pictures.sloping(4, 4, 0);
        p.step(COLOURS);
        due("7 own of 0", p.at(1, 2, 2, 0), 220);
        due("7 own of 1", p.at(1, 1, 2, 1), 210);
        due("7 own of 2", p.at(1, 1, 1, 2), 110);
        due("7 at 0 of 1: four", p.at(1, 2, 2, 1), (210 + 230 + 120 + 320) / 4);
        due("7 at 0 of 2: four", p.at(1, 2, 2, 2), (110 + 130 + 310 + 330) / 4);
        due("7 at 1 of 0: left, right", p.at(1, 1, 2, 0), (200 + 220) / 2);
        due("7 at 1 of 2: up, down", p.at(1, 1, 2, 2), (110 + 310) / 2);
        due("7 at 2 of 0: four", p.at(1, 1, 1, 0), (0 + 20 + 200 + 220) / 4);
        due("7 corner of 1: two", p.at(1, 0, 0, 1), (10 + 100) / 2);
        due("7 corner of 2: one", p.at(1, 0, 0, 2), 110);
        due("7 edge of 0: one", p.at(1, 3, 0, 0), 20);
        p.cell(1, 0, 11);
        due("7 rounded down", p.at(1, 0, 0, 1), 55);
        p.dead(1, 0, true);
        due("7 dead ones count like others", p.at(1, 0, 0, 1), 55);

        PicturePath row = Pictures.flat(3, 1, 9);
        row.step(COLOURS);
        due("7 a row has none of 2", row.at(1, 1, 0, 2), 0);
    }

    private static void promise7Half() {
        PicturePath p = Pictures.flat(5, 3, 0);
        p.step(COLOURS);
        p.step(HALF);
        p.cell(0, 0, 7);
        due("7 half of 7 7 3 and less, rounded down", p.at(2, 0, 0, 0), (7 + 3 + 3 + 1) / 4);
        due("7 half width", p.stage(2, 0), 2);
        due("7 half height", p.stage(2, 1), 1);
        due("7 no second row", p.at(2, 0, 1, 0), OUTSIDE);

        PicturePath narrow = Pictures.flat(1, 4, 1);
        narrow.step(COLOURS);
        due("7 width of 1", narrow.step(HALF), STATE);
        PicturePath low = Pictures.flat(4, 1, 1);
        low.step(COLOURS);
        due("7 height of 1", low.step(HALF), STATE);
    }

    private static void promise8Entry() {
        PicturePath p = new PicturePath();
        int[] first = {1000, 0, 0, 0, 1000, 0, 0, 0, 1000};
        for (int i = 0; i < 9; i++) {
            due("8 first " + i, p.entry(i, i % 2 == 0 ? -4000 : 4000), first[i]);
        }
        for (int i = 0; i < 9; i++) {
            due("8 was " + i, p.entry(i, i), i % 2 == 0 ? -4000 : 4000);
        }
        long before = p.digest();
        int[] nothing = {-1, 9, LOW, HIGH};
        for (int i : nothing) {
            due("8 no number " + i, p.entry(i, 0), UNKNOWN);
            due("8 UNKNOWN ahead of OUTSIDE", p.entry(i, 4001), UNKNOWN);
        }
        int[] wrong = {-4001, 4001, LOW, HIGH};
        for (int v : wrong) {
            due("8 v " + v, p.entry(3, v), OUTSIDE);
        }
        due("8 refusals change nothing", p.digest(), before);
    }

    private static void promise9Matrix() {
        PicturePath p = Pictures.sloping(2, 2, 100);
        due("9 ahead of colours", p.matrix(), STATE);
        p.step(COLOURS);
        due("9 colours of (0, 0) 0", p.at(1, 0, 0, 0), 100);
        due("9 colours of (0, 0) 1", p.at(1, 0, 0, 1), 155);
        due("9 colours of (0, 0) 2", p.at(1, 0, 0, 2), 210);
        due("9 matrix", p.matrix(), 2);
        for (int plane = 0; plane < 3; plane++) {
            due("9 the first one changes nothing", p.at(2, 0, 0, plane), p.at(1, 0, 0, plane));
        }
        int[] m = {1, 2, 3, -10, 20, 30, 4000, 4000, 4000};
        for (int i = 0; i < 9; i++) {
            p.entry(i, m[i]);
        }
        due("9 a step keeps its numbers", p.at(2, 0, 0, 2), 210);
        due("9 matrix again", p.matrix(), 3);
        due("9 rounded down", p.at(3, 0, 0, 0), (100 + 310 + 630) / 1000);
        due("9 second row", p.at(3, 0, 0, 1), (-1000 + 3100 + 6300) / 1000);
        due("9 third row", p.at(3, 0, 0, 2), 4 * (100 + 155 + 210));
        for (int i = 0; i < 9; i++) {
            p.entry(i, i < 3 ? -4000 : 4000);
        }
        due("9 a third", p.matrix(), 4);
        due("9 at least 0", p.at(4, 0, 0, 0), 0);
        due("9 at most 4095", p.at(4, 0, 0, 1), 4095);
        for (int i = 5; i <= 10; i++) {
            due("9 step " + i, p.matrix(), i);
        }
        due("9 eleventh", p.matrix(), FULL);
        due("9 still ten", p.count(3), 10);
    }

    private static void promise10Point() {
        PicturePath p = new PicturePath();
        for (int i = 0; i < 17; i++) {
            due("10 first " + i, p.point(i, i % 2 == 0 ? 0 : 4095), i == 16 ? 4095 : 256 * i);
        }
        for (int i = 0; i < 17; i++) {
            due("10 was " + i, p.point(i, i), i % 2 == 0 ? 0 : 4095);
        }
        long before = p.digest();
        int[] nothing = {-1, 17, LOW, HIGH};
        for (int i : nothing) {
            due("10 no number " + i, p.point(i, 0), UNKNOWN);
            due("10 UNKNOWN ahead of OUTSIDE", p.point(i, 4096), UNKNOWN);
        }
        int[] wrong = {-1, 4096, LOW, HIGH};
        for (int v : wrong) {
            due("10 v " + v, p.point(3, v), OUTSIDE);
        }
        due("10 refusals change nothing", p.digest(), before);
    }

    private static void promise11Curve() {
        PicturePath p = Pictures.flat(2, 2, 0);
        due("11 ahead of colours", p.curve(), STATE);
        p.cell(0, 0, 1000);
        p.gain(4095, 1000, 1000);
        p.step(COLOURS);
        due("11 the top", p.at(2, 0, 0, 0), 4095);
        due("11 curve", p.curve(), 3);
        due("11 4095 by the first one", p.at(3, 0, 0, 0), 3840 + 255 * 255 / 256);
        p.cell(0, 0, 0);
        due("11 0 by the first one", p.at(3, 0, 0, 0), 0);
        for (int i = 0; i < 17; i++) {
            p.point(i, i < 4 ? 10 : 1000 + i);
        }
        due("11 a step keeps its numbers", p.at(3, 0, 0, 0), 0);
        due("11 curve again", p.curve(), 4);
        due("11 level", p.at(4, 0, 0, 0), 10);
        p.undo();
        p.undo();
        due("11 of it alone", p.curve(), 3);
        p.cell(0, 1, 3 * 256);
        due("11 at the third point", p.at(3, 0, 1, 1), 10);
        p.cell(0, 1, 3 * 256 + 1);
        due("11 a little on, rounded down", p.at(3, 0, 1, 1), 10 + 994 / 256);
        p.cell(0, 1, 3 * 256 + 255);
        due("11 just ahead of the fourth", p.at(3, 0, 1, 1), 10 + 994 * 255 / 256);

        p.point(5, 1003);
        due("11 below the one ahead", p.curve(), OUTSIDE);
        p.point(5, 1004);
        due("11 the same as the one ahead", p.curve(), 4);
        p.point(16, 0);
        due("11 the last below", p.curve(), OUTSIDE);
        p.point(16, 4095);
        p.point(0, 11);
        due("11 the second below", p.curve(), OUTSIDE);
        p.size(1, 1);
        due("11 OUTSIDE ahead of STATE", p.curve(), OUTSIDE);
        p.point(0, 0);
        due("11 STATE", p.curve(), STATE);
        p.step(COLOURS);
        for (int i = 2; i <= 10; i++) {
            due("11 step " + i, p.curve(), i);
        }
        due("11 eleventh", p.curve(), FULL);
        p.point(0, 4095);
        due("11 OUTSIDE ahead of FULL", p.curve(), OUTSIDE);
        due("11 still ten", p.count(3), 10);
    }

    private static void promise12Undo() {
        PicturePath p = Pictures.flat(4, 4, 8);
        due("12 none", p.undo(), STATE);
        long before = p.digest();
        p.black(1);
        p.step(COLOURS);
        p.step(HALF);
        due("12 half goes", p.undo(), 2);
        due("12 as wide as ahead of it", p.stage(2, 0), 4);
        due("12 half may come again", p.step(HALF), 3);
        due("12 half goes again", p.undo(), 2);
        due("12 colours go", p.undo(), 1);
        due("12 black may come again", p.black(2), 2);
        due("12 black goes", p.undo(), 1);
        due("12 the last goes", p.undo(), 0);
        due("12 none again", p.undo(), STATE);
        due("12 all as ahead", p.digest(), before);
    }

    private static void promise13Kind() {
        PicturePath p = Pictures.flat(2, 2, 1);
        due("13 none", p.kind(0), NONE);
        p.black(1);
        p.gain(1, 1, 1);
        p.step(MEND);
        p.step(MIDDLE);
        p.step(COLOURS);
        p.matrix();
        p.curve();
        p.step(HALF);
        for (int k = 0; k < 8; k++) {
            due("13 kind " + k, p.kind(k), k);
        }
        due("13 behind the last", p.kind(8), NONE);
        due("13 below", p.kind(-1), NONE);
        due("13 low", p.kind(LOW), NONE);
        due("13 high", p.kind(HIGH), NONE);
        p.undo();
        due("13 gone", p.kind(7), NONE);
        p.matrix();
        p.matrix();
        p.matrix();
        due("13 tenth", p.kind(9), 5);
        due("13 no eleventh", p.kind(10), NONE);
    }

    private static void promise14Stage() {
        PicturePath p = new PicturePath();
        p.size(11, 9);
        p.black(1);
        p.gain(1, 1, 1);
        p.step(MEND);
        p.step(MIDDLE);
        p.step(COLOURS);
        p.step(HALF);
        p.matrix();
        p.curve();
        p.step(HALF);
        p.step(HALF);
        int[][] want = {
            {11, 9, 1, 0, 1}, {11, 9, 1, 0, 1}, {11, 9, 1, 0, 1}, {11, 9, 1, 2, 1}, {11, 9, 1, 4, 1},
            {11, 9, 3, 5, 1}, {5, 4, 3, 6, 2}, {5, 4, 3, 6, 2}, {5, 4, 3, 6, 2}, {2, 2, 3, 8, 4}, {1, 1, 3, 12, 8},
        };
        for (int k = 0; k < want.length; k++) {
            for (int what = 0; what < 5; what++) {
                due("14 stage(" + k + ", " + what + ")", p.stage(k, what), want[k][what]);
            }
        }
        int[] nothing = {-1, 11, LOW, HIGH};
        for (int k : nothing) {
            due("14 no stage " + k, p.stage(k, 0), UNKNOWN);
            due("14 UNKNOWN ahead of OUTSIDE", p.stage(k, 5), UNKNOWN);
        }
        int[] wrong = {-1, 5, LOW, HIGH};
        for (int what : wrong) {
            due("14 what " + what, p.stage(10, what), OUTSIDE);
        }
        p.undo();
        due("14 gone", p.stage(10, 0), UNKNOWN);
    }

    private static void promise15At() {
        PicturePath p = Pictures.sloping(4, 2, 50);
        p.black(30);
        p.step(COLOURS);
        p.step(HALF);
        due("15 stage 0", p.at(0, 3, 1, 0), 180);
        due("15 stage 1", p.at(1, 3, 1, 0), 150);
        due("15 stage 2", p.at(2, 3, 1, 2), 150);
        due("15 stage 3", p.at(3, 1, 0, 2), (140 + 150 + 140 + 150) / 4);
        due("15 no stage", p.at(4, 0, 0, 0), UNKNOWN);
        due("15 no stage below", p.at(-1, 0, 0, 0), UNKNOWN);
        due("15 UNKNOWN ahead of OUTSIDE", p.at(4, 9, 9, 9), UNKNOWN);
        int[][] nowhere = {{4, 0}, {0, 2}, {-1, 0}, {0, -1}, {LOW, 0}, {0, LOW}, {HIGH, 0}, {0, HIGH}};
        for (int[] place : nowhere) {
            due("15 no place", p.at(2, place[0], place[1], 0), OUTSIDE);
        }
        due("15 no column behind half", p.at(3, 2, 0, 0), OUTSIDE);
        due("15 no row behind half", p.at(3, 0, 1, 0), OUTSIDE);
        int[] wrong = {-1, 3, LOW, HIGH};
        for (int plane : wrong) {
            due("15 plane " + plane, p.at(2, 0, 0, plane), OUTSIDE);
        }
        due("15 one plane ahead of colours", p.at(1, 0, 0, 1), OUTSIDE);
    }

    private static void promise16Part() {
        PicturePath p = Pictures.sloping(4, 3, 0);
        due("16 of cells", p.part(1, 1, 2, 2, 0), 110 + 120 + 210 + 220);
        due("16 one", p.part(3, 2, 1, 1, 0), 230);
        due("16 all", p.part(0, 0, 4, 3, 0), 4 * (0 + 100 + 200) + 3 * (10 + 20 + 30));
        p.step(MIDDLE);
        due("16 behind middle", p.part(0, 0, 1, 3, 0), p.at(1, 0, 0, 0) + p.at(1, 0, 1, 0) + p.at(1, 0, 2, 0));
        due("16 one plane", p.part(0, 0, 1, 1, 1), OUTSIDE);
        p.step(COLOURS);
        due("16 a plane", p.part(1, 1, 2, 1, 2), 110 + (110 + 130) / 2);
        partsOutside(p, 4, 3);
        int[] wrong = {-1, 3, LOW, HIGH};
        for (int plane : wrong) {
            due("16 plane " + plane, p.part(0, 0, 1, 1, plane), OUTSIDE);
        }
        p.step(HALF);
        due("16 within the last stage", p.part(0, 0, 2, 1, 0), p.at(3, 0, 0, 0) + p.at(3, 1, 0, 0));
        due("16 beyond the last stage", p.part(0, 0, 2, 2, 0), OUTSIDE);

        PicturePath bright = Pictures.flat(16, 16, 1023);
        bright.gain(8000, 8000, 8000);
        due("16 the greatest sum", bright.part(0, 0, 16, 16, 0), 256 * 4095);
    }

    private static void partsOutside(PicturePath p, int w, int h) {
        int[][] parts = {
            {0, 0, 0, 1}, {0, 0, 1, 0}, {0, 0, -1, 1}, {0, 0, 1, -1}, {-1, 0, 1, 1}, {0, -1, 1, 1}, {-1, 0, 2, 1},
            {w, 0, 1, 1}, {0, h, 1, 1}, {0, 0, w + 1, 1}, {0, 0, 1, h + 1}, {1, 0, w, 1}, {0, 1, 1, h},
            {1, 0, HIGH, 1}, {0, 1, 1, HIGH}, {HIGH, 0, HIGH, 1}, {0, HIGH, 1, HIGH}, {LOW, 0, LOW, 1}, {0, LOW, 1, LOW},
            {LOW, 0, HIGH, 1}, {HIGH, HIGH, 1, 1}, {0, 0, LOW, LOW},
        };
        for (int[] q : parts) {
            String where = "(" + q[0] + ", " + q[1] + ", " + q[2] + ", " + q[3] + ")";
            due("16 part " + where, p.part(q[0], q[1], q[2], q[3], 0), OUTSIDE);
            due("17 needs " + where, p.needs(q[0], q[1], q[2], q[3]), OUTSIDE);
        }
    }

    private static void promise17Needs() {
        PicturePath p = Pictures.sloping(9, 9, 0);
        due("17 cells need themselves", p.needs(2, 3, 4, 5), 20);
        p.black(1023);
        p.gain(0, 0, 0);
        due("17 of the same place, whatever the numbers", p.needs(2, 3, 4, 5), 20);
        p.step(MEND);
        due("17 mend: five", p.needs(4, 4, 1, 1), 5);
        due("17 mend: three at the corner", p.needs(0, 0, 1, 1), 3);
        due("17 mend: four at the side", p.needs(8, 4, 1, 1), 4);
        p.dead(4, 4, true);
        p.dead(2, 4, true);
        due("17 mend: dead or not", p.needs(4, 4, 1, 1), 5);
        p.step(MIDDLE);
        due("17 middle of mend", p.needs(4, 4, 1, 1), 13);
        p.undo();
        p.undo();
        p.step(COLOURS);
        due("17 colours at 0: nine", p.needs(4, 4, 1, 1), 9);
        due("17 colours at 1: itself, two and two, and no other of 1", p.needs(3, 4, 1, 1), 5);
        due("17 corner: four", p.needs(0, 0, 1, 1), 4);
        p.entry(0, 0);
        p.matrix();
        due("17 matrix", p.needs(4, 4, 1, 1), 9);
        p.curve();
        due("17 curve", p.needs(4, 4, 1, 1), 9);
        p.step(HALF);
        due("17 half", p.needs(1, 1, 1, 1), 16 - 2);
        due("17 the last row and column are left out by half, and needed all the same", p.needs(0, 0, 4, 4), 81);
        partsOutside(p, 4, 4);

        PicturePath even = new PicturePath();
        even.size(1, 1);
        even.step(COLOURS);
        due("17 one cell", even.needs(0, 0, 1, 1), 1);
    }

    private static void promise18Counts() {
        PicturePath p = Pictures.sloping(7, 7, 0);
        due("18 itself", p.counts(3, 3, 3, 3, 0), 1);
        due("18 no other", p.counts(3, 2, 3, 3, 0), 0);
        p.step(MIDDLE);
        int[][] four = {{1, 3}, {5, 3}, {3, 1}, {3, 5}, {3, 3}};
        for (int[] c : four) {
            due("18 middle", p.counts(c[0], c[1], 3, 3, 0), 1);
        }
        int[][] others = {{2, 3}, {3, 4}, {1, 1}, {5, 5}, {0, 3}, {3, 6}};
        for (int[] c : others) {
            due("18 middle, others", p.counts(c[0], c[1], 3, 3, 0), 0);
        }
        due("18 no wrap to the next row", p.counts(0, 4, 6, 3, 0), 0);
        p.undo();
        p.step(COLOURS);
        due("18 own colour: itself", p.counts(3, 3, 3, 3, 2), 1);
        due("18 own colour: itself alone", p.counts(5, 5, 3, 3, 2), 0);
        due("18 another colour: not itself", p.counts(3, 3, 3, 3, 0), 0);
        due("18 another colour: a corner", p.counts(2, 4, 3, 3, 0), 1);
        due("18 another colour: not a side", p.counts(2, 3, 3, 3, 0), 0);
        due("18 another colour: a side", p.counts(2, 3, 3, 3, 1), 1);
        due("18 between two: left", p.counts(2, 2, 3, 2, 0), 1);
        due("18 between two: not down", p.counts(3, 3, 3, 2, 0), 0);
        p.entry(1, 0);
        p.matrix();
        due("18 matrix: all planes, whatever the numbers", p.counts(2, 3, 3, 3, 0), 1);
        due("18 matrix: no further", p.counts(3, 5, 3, 3, 0), 0);

        int[][] nowhere = {{7, 0}, {0, 7}, {-1, 0}, {0, -1}, {LOW, HIGH}};
        for (int[] c : nowhere) {
            due("18 no cell", p.counts(c[0], c[1], 0, 0, 0), UNKNOWN);
            due("18 UNKNOWN ahead of OUTSIDE", p.counts(c[0], c[1], 9, 0, 0), UNKNOWN);
            due("18 no place", p.counts(0, 0, c[0], c[1], 0), OUTSIDE);
        }
        due("18 plane 3", p.counts(0, 0, 0, 0, 3), OUTSIDE);
        due("18 plane -1", p.counts(0, 0, 0, 0, -1), OUTSIDE);
        p.step(HALF);
        due("18 a place that half leaves out", p.counts(6, 6, 2, 2, 0), 1);
        due("18 not for another", p.counts(6, 6, 1, 1, 0), 0);
        due("18 no such column of the last stage", p.counts(6, 6, 3, 0, 0), OUTSIDE);
        p.size(2, 2);
        due("18 one plane", p.counts(0, 0, 0, 0, 1), OUTSIDE);
    }

    private static void promise19Bound() {
        PicturePath p = Pictures.sloping(4, 4, 5);
        due("19 least", p.bound(0, 0), 5);
        due("19 greatest", p.bound(0, 1), 335);
        p.cell(3, 3, 0);
        p.cell(2, 1, 1000);
        due("19 least at the end", p.bound(0, 0), 0);
        due("19 greatest inside", p.bound(0, 1), 1000);
        due("19 one plane", p.bound(1, 0), OUTSIDE);
        p.step(COLOURS);
        due("19 least of plane 2", p.bound(2, 0), 0);
        due("19 least of plane 0", p.bound(0, 0), 5);
        due("19 greatest of plane 0", p.bound(0, 1), 225);
        int[] wrong = {-1, 3, LOW, HIGH};
        for (int plane : wrong) {
            due("19 plane " + plane, p.bound(plane, 0), OUTSIDE);
        }
        int[] sides = {-1, 2, LOW, HIGH};
        for (int side : sides) {
            due("19 side " + side, p.bound(0, side), OUTSIDE);
        }
        PicturePath bright = Pictures.flat(2, 2, 1023);
        bright.gain(8000, 8000, 8000);
        due("19 least 4095", bright.bound(0, 0), 4095);
    }

    private static void promise20Count() {
        PicturePath p = new PicturePath();
        p.size(6, 3);
        p.dead(5, 2, true);
        p.dead(0, 0, true);
        p.dead(0, 0, true);
        p.black(1);
        due("20 width", p.count(0), 6);
        due("20 height", p.count(1), 3);
        due("20 dead", p.count(2), 2);
        due("20 steps", p.count(3), 1);
        p.step(COLOURS);
        p.step(HALF);
        due("20 width of cells still", p.count(0), 6);
        due("20 steps still", p.count(3), 3);
        int[] wrong = {-1, 4, LOW, HIGH};
        for (int what : wrong) {
            due("20 what " + what, p.count(what), OUTSIDE);
        }
    }

    private static void promise21Digest() {
        PicturePath p = new PicturePath();
        p.size(2, 1);
        p.cell(0, 0, 40);
        p.cell(1, 0, 30);
        p.dead(1, 0, true);
        p.black(10);
        p.gain(2000, 3000, 4000);
        p.step(COLOURS);
        p.entry(8, 500);
        p.matrix();
        p.point(0, 1);
        p.curve();
        p.entry(0, 2000);
        p.point(1, 300);
        long h = 109;
        h = mix(h, 2, 1, 40, 5030);
        h = mix(h, 0, 10);
        h = mix(h, 1, 2000, 3000, 4000);
        h = mix(h, 4);
        h = mix(h, 5, 1000, 0, 0, 0, 1000, 0, 0, 0, 500);
        h = mix(h, 6, 1, 256, 512, 768, 1024, 1280, 1536, 1792);
        h = mix(h, 2048, 2304, 2560, 2816, 3072, 3328, 3584, 3840, 4095);
        h = mix(h, 2000, 0, 0, 0, 1000, 0, 0, 0, 500);
        h = mix(h, 1, 300, 512, 768, 1024, 1280, 1536, 1792);
        h = mix(h, 2048, 2304, 2560, 2816, 3072, 3328, 3584, 3840, 4095);
        // both places have 60, 60, 0: the curve from 1 to 256 brings 60 to 1 + 255 * 60 / 256
        h = mix(h, 60, 60, 1, 60, 60, 1);
        due("21 digest", p.digest(), h);
        due("21 asking changes nothing", p.digest(), h);
    }

    private static long mix(long start, int... numbers) {
        long h = start;
        for (int number : numbers) {
            h = 31 * h + number;
        }
        return h;
    }

    private static void stateIsToldAheadOfFull() {
        PicturePath p = new PicturePath();
        for (int i = 0; i < 10; i++) {
            p.black(0);
        }
        due("9 STATE ahead of FULL", p.matrix(), STATE);
        due("11 STATE ahead of FULL", p.curve(), STATE);
        due("7 half: STATE ahead of FULL", p.step(HALF), STATE);
        p.size(2, 2);
        p.step(COLOURS);
        fill(p, 1);
        due("7 half that might stand there", p.step(HALF), FULL);
        due("6 STATE ahead of FULL", p.gain(0, 0, 0), STATE);
        due("7 mend: STATE ahead of FULL", p.step(MEND), STATE);
        due("7 middle: STATE ahead of FULL", p.step(MIDDLE), STATE);
    }

    /** Fills a path that has this many steps, colours among them. */
    private static void fill(PicturePath p, int has) {
        for (int i = has; i < 10; i++) {
            p.matrix();
        }
    }
}
