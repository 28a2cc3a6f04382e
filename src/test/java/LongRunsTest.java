import java.util.ArrayList;
import java.util.List;
import java.util.Random;

/**
 * "An object is used for at most 512 calls": each call as the 512th of a run. Calls of all kinds, many of
 * them refused, go ahead; the last of them bring the object to one state, of which all answers are known.
 */
public final class LongRunsTest {
    private static final int STATE = -103;
    private static final int CALLS = 512;
    private static final int RUNS = 20;
    private static final int FACE = 20;

    private static final Dues dues = new Dues();

    private interface Call {
        long on(PicturePath p);
    }

    /** A call in the known state, and its answer by hand. */
    private record Last(String name, Call call, long answer) { }

    public static void main(String[] args) {
        dues.about("An object is used for at most 512 calls, the last");
        List<Call> ending = callsToTheKnownState();
        List<Last> lasts = lastCalls();
        dues.due("calls of the face", lasts.size(), FACE);
        for (int run = 0; run < RUNS; run++) {
            for (Last last : lasts) {
                play(new Random(run), ending, last);
            }
        }
        dues.end();
    }

    private static void play(Random random, List<Call> ending, Last last) {
        PicturePath p = new PicturePath();
        for (int i = 0; i < CALLS - 1 - ending.size(); i++) {
            oneCall(p, random);
        }
        for (Call call : ending) {
            call.on(p);
        }
        dues.due(last.name(), last.call().on(p), last.answer());
    }

    /** 2 by 2 cells of 100, 200, 300, 400, the last one DEAD, the first numbers at hand; BLACK 50, COLOURS. */
    private static List<Call> callsToTheKnownState() {
        List<Call> all = new ArrayList<>();
        all.add(p -> p.size(2, 2));
        for (int i = 0; i < 4; i++) {
            int place = i;
            all.add(p -> p.cell(place % 2, place / 2, 100 * (place + 1)));
        }
        all.add(p -> p.dead(1, 1, true));
        for (int i = 0; i < 9; i++) {
            int entry = i;
            all.add(p -> p.entry(entry, entry % 4 == 0 ? 1000 : 0));
        }
        for (int i = 0; i < 17; i++) {
            int point = i;
            all.add(p -> p.point(point, Math.min(256 * point, 4095)));
        }
        all.add(p -> p.black(50));
        all.add(p -> p.step(4));
        return all;
    }

    private static List<Last> lastCalls() {
        List<Last> all = new ArrayList<>();
        all.add(new Last("size(3, 5)", p -> p.size(3, 5), 15));
        all.add(new Last("cell(1, 0, 7)", p -> p.cell(1, 0, 7), 200));
        all.add(new Last("dead(1, 1, true)", p -> p.dead(1, 1, true), 1));
        all.add(new Last("black(1)", p -> p.black(1), STATE));
        all.add(new Last("gain(1, 1, 1)", p -> p.gain(1, 1, 1), STATE));
        all.add(new Last("step(7)", p -> p.step(7), 3));
        all.add(new Last("entry(4, 5)", p -> p.entry(4, 5), 1000));
        all.add(new Last("matrix()", p -> p.matrix(), 3));
        all.add(new Last("point(16, 0)", p -> p.point(16, 0), 4095));
        all.add(new Last("curve()", p -> p.curve(), 3));
        all.add(new Last("undo()", p -> p.undo(), 1));
        all.add(new Last("kind(1)", p -> p.kind(1), 4));
        all.add(new Last("stage(2, 3)", p -> p.stage(2, 3), 1));
        all.add(new Last("at(2, 0, 0, 1)", p -> p.at(2, 0, 0, 1), 200));
        all.add(new Last("part(0, 0, 2, 1, 1)", p -> p.part(0, 0, 2, 1, 1), 350));
        all.add(new Last("needs(0, 0, 1, 1)", p -> p.needs(0, 0, 1, 1), 4));
        all.add(new Last("counts(1, 1, 0, 0, 2)", p -> p.counts(1, 1, 0, 0, 2), 1));
        all.add(new Last("bound(1, 1)", p -> p.bound(1, 1), 250));
        all.add(new Last("count(3)", p -> p.count(3), 2));
        all.add(new Last("digest()", p -> p.digest(), digestOfTheKnownState()));
        return all;
    }

    private static long digestOfTheKnownState() {
        int[][] rows = {
            {2, 2}, {100, 200, 300, 5400}, {0, 50}, {4},
            {1000, 0, 0, 0, 1000, 0, 0, 0, 1000},
            {0, 256, 512, 768, 1024, 1280, 1536, 1792, 2048, 2304, 2560, 2816, 3072, 3328, 3584, 3840, 4095},
            {50, 200, 350}, {50, 150, 350}, {50, 250, 350}, {50, 200, 350},
        };
        long h = 109;
        for (int[] row : rows) {
            for (int number : row) {
                h = 31 * h + number;
            }
        }
        return h;
    }

    private static long oneCall(PicturePath p, Random random) {
        int x = number(random, 16);
        int y = number(random, 16);
        int plane = number(random, 3);
        switch (random.nextInt(FACE + 8)) {
            case 0: return p.size(number(random, 17), number(random, 17));
            case 1: return p.dead(x, y, random.nextBoolean());
            case 2: return p.black(number(random, 1024));
            case 3: return p.gain(number(random, 8001), number(random, 8001), number(random, 8001));
            case 4: return p.entry(number(random, 9), number(random, 8001) - 4000);
            case 5: return p.matrix();
            case 6: return p.point(number(random, 17), number(random, 4096));
            case 7: return p.curve();
            case 8: return p.undo();
            case 9: return p.kind(number(random, 10));
            case 10: return p.stage(number(random, 11), number(random, 5));
            case 11: return p.at(number(random, 11), x, y, plane);
            case 12: return p.part(x, y, number(random, 17), number(random, 17), plane);
            case 13: return p.needs(x, y, number(random, 17), number(random, 17));
            case 14: return p.counts(x, y, number(random, 16), number(random, 16), plane);
            case 15: return p.bound(plane, number(random, 2));
            case 16: return p.count(number(random, 4));
            case 17: return p.digest();
            case 18: case 19: case 20: case 21: return p.step(number(random, 8));
            default: return p.cell(x, y, number(random, 1024));
        }
    }

    /** 0 to below a bound, at times beyond. */
    private static int number(Random random, int bound) {
        return random.nextInt(40) == 0 ? random.nextInt() : random.nextInt(bound);
    }
}
