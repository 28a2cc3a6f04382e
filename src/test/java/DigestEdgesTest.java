import java.math.BigInteger;
import java.util.ArrayList;
import java.util.List;

/** Promise 21, sentence by sentence; what is due is reckoned without any wrapping, and brought to a long at the end. */
public final class DigestEdgesTest {
    private static final int MEND = 2, MIDDLE = 3, COLOURS = 4, HALF = 7;
    private static final int[] FIRST_MATRIX = {1000, 0, 0, 0, 1000, 0, 0, 0, 1000};
    private static final int[] FIRST_CURVE = {0, 256, 512, 768, 1024, 1280, 1536, 1792, 2048, 2304, 2560, 2816, 3072, 3328, 3584,
        3840, 4095};

    private static final Dues dues = new Dues();

    public static void main(String[] args) {
        ofANewObject();
        wrapsAsALong();
        widthThenHeight();
        cellsRowByRow();
        deadOnesHave5000More();
        stepsHaveTheirKindAndNumbers();
        eachKindOfStep();
        numbersAtHand();
        numbersAtHandAndThoseOfSteps();
        lastStageRowByRow();
        eachPlaceItsPlanes();
        ofTenSteps();
        ofTheGreatestSize();
        ofARefusedCall();
        dues.end();
    }

    private static void due(String call, long got, long want) {
        dues.due(call, got, want);
    }

    /** The numbers that a digest is made of, in order. */
    private static final class Numbers {
        private final List<Integer> all = new ArrayList<>();

        Numbers and(int... numbers) {
            for (int number : numbers) {
                all.add(number);
            }
            return this;
        }

        BigInteger whole() {
            BigInteger h = BigInteger.valueOf(109);
            for (int number : all) {
                h = h.multiply(BigInteger.valueOf(31)).add(BigInteger.valueOf(number));
            }
            return h;
        }

        long asLong() {
            return whole().longValue();
        }
    }

    private static Numbers numbers(int... first) {
        return new Numbers().and(first);
    }

    private static void ofANewObject() {
        dues.about("21 of a new object");
        due("digest()", new PicturePath().digest(), numbers(1, 1, 0).and(FIRST_MATRIX).and(FIRST_CURVE).and(0).asLong());
    }

    private static void wrapsAsALong() {
        dues.about("21 as longs, wrapping");
        Numbers n = numbers(1, 1, 0).and(FIRST_MATRIX).and(FIRST_CURVE).and(0);
        dues.holds("what is due lies beyond a long", n.whole().bitLength() > 64);
        due("digest()", new PicturePath().digest(), n.asLong());
        // one number more or less moves a digest by a power of 31 that itself wraps
        PicturePath p = new PicturePath();
        long before = p.digest();
        p.entry(0, 1001);
        long power = BigInteger.valueOf(31).pow(8 + 17 + 1).longValue();
        due("one more in the first entry", p.digest() - before, power);
        p.entry(0, -4000);
        due("5000 less in the first entry", p.digest() - before, -5000 * power);
    }

    private static void widthThenHeight() {
        dues.about("21 W, H");
        PicturePath p = Pictures.sized(3, 1);
        due("3 by 1", p.digest(), numbers(3, 1, 0, 0, 0).and(FIRST_MATRIX).and(FIRST_CURVE).and(0, 0, 0).asLong());
        p.size(1, 3);
        due("1 by 3", p.digest(), numbers(1, 3, 0, 0, 0).and(FIRST_MATRIX).and(FIRST_CURVE).and(0, 0, 0).asLong());
    }

    private static void cellsRowByRow() {
        dues.about("21 of each CELL, row by row, its number");
        PicturePath p = Pictures.of(new int[][] {{1, 2, 3}, {4, 1023, 6}});
        due("3 by 2", p.digest(),
            numbers(3, 2, 1, 2, 3, 4, 1023, 6).and(FIRST_MATRIX).and(FIRST_CURVE).and(1, 2, 3, 4, 1023, 6).asLong());
    }

    private static void deadOnesHave5000More() {
        dues.about("21 and 5000 more if DEAD");
        PicturePath p = Pictures.of(new int[][] {{0, 2}, {3, 1023}});
        p.dead(0, 0, true);
        p.dead(1, 1, true);
        due("two DEAD ones", p.digest(),
            numbers(2, 2, 5000, 2, 3, 6023).and(FIRST_MATRIX).and(FIRST_CURVE).and(0, 2, 3, 1023).asLong());
        p.dead(0, 0, false);
        due("one DEAD one", p.digest(),
            numbers(2, 2, 0, 2, 3, 6023).and(FIRST_MATRIX).and(FIRST_CURVE).and(0, 2, 3, 1023).asLong());
    }

    private static void stepsHaveTheirKindAndNumbers() {
        dues.about("21 of each STEP its kind and numbers");
        PicturePath p = Pictures.of(new int[] {100, 200});
        p.black(10);
        p.gain(2000, 3000, 4000);
        due("BLACK k; GAIN three", p.digest(),
            numbers(2, 1, 100, 200, 0, 10, 1, 2000, 3000, 4000).and(FIRST_MATRIX).and(FIRST_CURVE).and(180, 570).asLong());
        p.size(1, 1);
        p.gain(1, 2, 3);
        p.black(4);
        due("GAIN three; BLACK k", p.digest(),
            numbers(1, 1, 0, 1, 1, 2, 3, 0, 4).and(FIRST_MATRIX).and(FIRST_CURVE).and(0).asLong());
    }

    private static void eachKindOfStep() {
        dues.about("21 of each STEP its kind");
        PicturePath p = Pictures.flat(2, 2, 8);
        p.black(0);
        p.gain(1000, 1000, 1000);
        p.step(MEND);
        p.step(MIDDLE);
        Numbers cells = numbers(2, 2, 8, 8, 8, 8, 0, 0, 1, 1000, 1000, 1000, 2, 3);
        due("0 to 3", p.digest(), cells.and(FIRST_MATRIX).and(FIRST_CURVE).and(8, 8, 8, 8).asLong());
        p.step(COLOURS);
        p.matrix();
        p.curve();
        p.step(HALF);
        Numbers all = numbers(2, 2, 8, 8, 8, 8, 0, 0, 1, 1000, 1000, 1000, 2, 3, 4, 5).and(FIRST_MATRIX);
        all.and(6).and(FIRST_CURVE).and(7);
        due("0 to 7", p.digest(), all.and(FIRST_MATRIX).and(FIRST_CURVE).and(8, 8, 8).asLong());
    }

    private static void numbersAtHand() {
        dues.about("21 numbers at hand for MATRIX, CURVE");
        PicturePath p = new PicturePath();
        int[] m = {-4000, 4000, -1, 0, 1, 2, -3, 3999, -3999};
        int[] t = {4095, 0, 1, 2, 3, 4, 5, 6, 7, 8, 9, 10, 11, 12, 13, 4094, 14};
        for (int i = 0; i < 9; i++) {
            p.entry(i, m[i]);
        }
        due("MATRIX", p.digest(), numbers(1, 1, 0).and(m).and(FIRST_CURVE).and(0).asLong());
        for (int i = 0; i < 17; i++) {
            p.point(i, t[i]);
        }
        due("MATRIX, CURVE", p.digest(), numbers(1, 1, 0).and(m).and(t).and(0).asLong());
    }

    private static void numbersAtHandAndThoseOfSteps() {
        dues.about("21 (MATRIX nine; CURVE seventeen), beside those at hand");
        PicturePath p = Pictures.flat(1, 1, 512);
        p.step(COLOURS);
        p.matrix();
        p.curve();
        int[] m = {500, 0, 0, 0, 1000, 0, 0, 0, -7};
        int[] t = FIRST_CURVE.clone();
        t[1] = 300;
        p.entry(0, m[0]);
        p.entry(8, m[8]);
        p.point(1, t[1]);
        Numbers n = numbers(1, 1, 512, 4, 5).and(FIRST_MATRIX).and(6).and(FIRST_CURVE).and(m).and(t);
        due("told with the first ones", p.digest(), n.and(512, 0, 0).asLong());
        p.matrix();
        p.curve();
        n = numbers(1, 1, 512, 4, 5).and(FIRST_MATRIX).and(6).and(FIRST_CURVE).and(5).and(m).and(6).and(t).and(m).and(t);
        due("told again with other ones", p.digest(), n.and(300, 0, 0).asLong());
    }

    private static void lastStageRowByRow() {
        dues.about("21 all numbers of the last STAGE, row by row");
        PicturePath p = Pictures.of(new int[][] {{10, 20}, {30, 40}, {50, 60}});
        p.black(9);
        due("behind BLACK", p.digest(),
            numbers(2, 3, 10, 20, 30, 40, 50, 60, 0, 9).and(FIRST_MATRIX).and(FIRST_CURVE).and(1, 11, 21, 31, 41, 51).asLong());
        p.undo();
        due("behind undo", p.digest(),
            numbers(2, 3, 10, 20, 30, 40, 50, 60).and(FIRST_MATRIX).and(FIRST_CURVE).and(10, 20, 30, 40, 50, 60).asLong());
    }

    private static void eachPlaceItsPlanes() {
        dues.about("21 of each place its PLANES");
        PicturePath p = Pictures.of(new int[][] {{10, 20}, {30, 40}});
        p.step(COLOURS);
        Numbers n = numbers(2, 2, 10, 20, 30, 40, 4).and(FIRST_MATRIX).and(FIRST_CURVE);
        due("behind COLOURS", p.digest(), n.and(10, 25, 40, 10, 20, 40, 10, 30, 40, 10, 25, 40).asLong());
        p.step(HALF);
        n = numbers(2, 2, 10, 20, 30, 40, 4, 7).and(FIRST_MATRIX).and(FIRST_CURVE);
        due("behind HALF", p.digest(), n.and(10, 25, 40).asLong());
    }

    private static void ofTenSteps() {
        dues.about("21 of the PATH of 10 STEPS");
        PicturePath p = Pictures.flat(1, 1, 100);
        Numbers n = numbers(1, 1, 100);
        for (int i = 1; i <= 10; i++) {
            p.black(i);
            n.and(0, i);
        }
        due("ten of BLACK", p.digest(), n.and(FIRST_MATRIX).and(FIRST_CURVE).and(45).asLong());
        p.size(1, 1);
        p.step(COLOURS);
        Numbers curves = numbers(1, 1, 0, 4);
        for (int i = 1; i <= 9; i++) {
            p.point(0, i);
            p.curve();
            int[] t = FIRST_CURVE.clone();
            t[0] = i;
            curves.and(6).and(t);
        }
        int[] hand = FIRST_CURVE.clone();
        hand[0] = 9;
        // 0 becomes 1; then 1 by t(0) = 2 is 2 and (256 less 2) times 1 by 256, which is 2; and so on
        int[] last = {0, 0, 0};
        for (int i = 1; i <= 9; i++) {
            for (int plane = 0; plane < 3; plane++) {
                last[plane] = i + (256 - i) * last[plane] / 256;
            }
        }
        due("nine of CURVE", p.digest(), curves.and(FIRST_MATRIX).and(hand).and(last).asLong());
    }

    private static void ofTheGreatestSize() {
        dues.about("21 of 16 by 16");
        PicturePath p = Pictures.sized(16, 16);
        Numbers n = numbers(16, 16);
        Numbers picture = numbers();
        for (int i = 0; i < 256; i++) {
            p.cell(i % 16, i / 16, 4 * i);
            n.and(4 * i);
            int v = Math.min(4095, 4 * i * 5);
            picture.and(v);
        }
        p.gain(5000, 5000, 5000);
        n.and(1, 5000, 5000, 5000).and(FIRST_MATRIX).and(FIRST_CURVE);
        for (int v : picture.all) {
            n.and(v);
        }
        due("digest()", p.digest(), n.asLong());
    }

    private static void ofARefusedCall() {
        dues.about("21 behind refused calls");
        PicturePath p = Pictures.of(new int[] {7, 8});
        p.cell(2, 0, 5);
        p.cell(0, 0, 1024);
        p.dead(0, 1, true);
        p.size(17, 1);
        p.black(1024);
        p.matrix();
        p.undo();
        p.entry(0, 4001);
        p.point(17, 1);
        due("digest()", p.digest(), numbers(2, 1, 7, 8).and(FIRST_MATRIX).and(FIRST_CURVE).and(7, 8).asLong());
    }
}
