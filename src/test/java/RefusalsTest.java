import java.util.ArrayList;
import java.util.List;

/**
 * "Refusals ... change nothing": of two objects that have been called alike one is refused a call, and
 * then both are asked, changed and asked again alike, and answer alike.
 */
public final class RefusalsTest {
    private static final int UNKNOWN = -101, OUTSIDE = -102, STATE = -103, FULL = -104;
    private static final int LOW = Integer.MIN_VALUE, HIGH = Integer.MAX_VALUE;

    private static final Dues dues = new Dues();
    private static final List<Call> CALLS = new ArrayList<>();

    public static void main(String[] args) {
        listCellCalls();
        listPathCalls();
        listHandCalls();
        listPictureCalls();
        listPartCalls();
        for (Call call : CALLS) {
            eachStateStays(call);
        }
        oneBehindAnother();
        dues.end();
    }

    private interface On {
        int call(PicturePath p);
    }

    /** A call that may be refused, and the refusals that it may meet in some state. */
    private record Call(String name, On on, int... refusals) { }

    private static void list(String name, On on, int... refusals) {
        CALLS.add(new Call(name, on, refusals));
    }

    private static void listCellCalls() {
        int[][] sizes = {{0, 1}, {1, 0}, {17, 1}, {1, 17}, {0, 0}, {-1, -1}, {LOW, HIGH}, {HIGH, HIGH}};
        for (int[] s : sizes) {
            list("size(" + s[0] + ", " + s[1] + ")", p -> p.size(s[0], s[1]), OUTSIDE);
        }
        int[][] places = {{-1, 0}, {0, -1}, {16, 0}, {0, 16}, {-1, 1}, {LOW, LOW}, {HIGH, 0}, {0, HIGH}};
        for (int[] c : places) {
            list("cell(" + c[0] + ", " + c[1] + ", 1)", p -> p.cell(c[0], c[1], 1), UNKNOWN);
            list("cell(" + c[0] + ", " + c[1] + ", 1024)", p -> p.cell(c[0], c[1], 1024), UNKNOWN);
            list("dead(" + c[0] + ", " + c[1] + ", true)", p -> p.dead(c[0], c[1], true), UNKNOWN);
            list("dead(" + c[0] + ", " + c[1] + ", false)", p -> p.dead(c[0], c[1], false), UNKNOWN);
        }
        int[] numbers = {-1, 1024, LOW, HIGH};
        for (int v : numbers) {
            list("cell(0, 0, " + v + ")", p -> p.cell(0, 0, v), OUTSIDE);
        }
        list("the CELL behind the last of its row", p -> p.cell(p.count(0), 0, 3), UNKNOWN);
        list("the CELL behind the last of its column", p -> p.cell(0, p.count(1), 3), UNKNOWN);
        list("the CELL behind the last, DEAD", p -> p.dead(p.count(0), p.count(1) - 1, true), UNKNOWN);
    }

    private static void listPathCalls() {
        int[] blacks = {-1, 1024, LOW, HIGH};
        for (int k : blacks) {
            list("black(" + k + ")", p -> p.black(k), OUTSIDE);
        }
        int[] gains = {-1, 8001, LOW, HIGH};
        for (int v : gains) {
            list("gain(" + v + ", 1, 1)", p -> p.gain(v, 1, 1), OUTSIDE);
            list("gain(1, " + v + ", 1)", p -> p.gain(1, v, 1), OUTSIDE);
            list("gain(1, 1, " + v + ")", p -> p.gain(1, 1, v), OUTSIDE);
        }
        int[] kinds = {0, 1, 5, 6, 8, -1, LOW, HIGH};
        for (int kind : kinds) {
            list("step(" + kind + ")", p -> p.step(kind), OUTSIDE);
        }
        list("black(5)", p -> p.black(5), STATE, FULL);
        list("gain(5, 6, 7)", p -> p.gain(5, 6, 7), STATE, FULL);
        list("step(2)", p -> p.step(2), STATE, FULL);
        list("step(3)", p -> p.step(3), STATE, FULL);
        list("step(4)", p -> p.step(4), STATE, FULL);
        list("step(7)", p -> p.step(7), STATE, FULL);
        list("matrix()", p -> p.matrix(), STATE, FULL);
        list("curve()", p -> p.curve(), OUTSIDE, STATE, FULL);
        list("undo()", p -> p.undo(), STATE);
    }

    private static void listHandCalls() {
        int[] noEntry = {-1, 9, LOW, HIGH};
        for (int i : noEntry) {
            list("entry(" + i + ", 5)", p -> p.entry(i, 5), UNKNOWN);
            list("entry(" + i + ", 4001)", p -> p.entry(i, 4001), UNKNOWN);
        }
        int[] noPoint = {-1, 17, LOW, HIGH};
        for (int i : noPoint) {
            list("point(" + i + ", 5)", p -> p.point(i, 5), UNKNOWN);
            list("point(" + i + ", 4096)", p -> p.point(i, 4096), UNKNOWN);
        }
        int[] entries = {-4001, 4001, LOW, HIGH};
        for (int v : entries) {
            list("entry(0, " + v + ")", p -> p.entry(0, v), OUTSIDE);
            list("entry(8, " + v + ")", p -> p.entry(8, v), OUTSIDE);
        }
        int[] points = {-1, 4096, LOW, HIGH};
        for (int v : points) {
            list("point(0, " + v + ")", p -> p.point(0, v), OUTSIDE);
            list("point(16, " + v + ")", p -> p.point(16, v), OUTSIDE);
        }
    }

    private static void listPictureCalls() {
        int[] noStage = {-1, 11, LOW, HIGH};
        for (int k : noStage) {
            list("stage(" + k + ", 0)", p -> p.stage(k, 0), UNKNOWN);
            list("at(" + k + ", 0, 0, 0)", p -> p.at(k, 0, 0, 0), UNKNOWN);
        }
        list("the stage behind the last", p -> p.stage(p.count(3) + 1, 1), UNKNOWN);
        list("a number of the stage behind the last", p -> p.at(p.count(3) + 1, 0, 0, 0), UNKNOWN);
        int[] whats = {-1, 5, LOW, HIGH};
        for (int what : whats) {
            list("stage(0, " + what + ")", p -> p.stage(0, what), OUTSIDE);
        }
        int[] counts = {-1, 4, LOW, HIGH};
        for (int what : counts) {
            list("count(" + what + ")", p -> p.count(what), OUTSIDE);
        }
        int[] planes = {-1, 3, LOW, HIGH};
        for (int plane : planes) {
            list("at(0, 0, 0, " + plane + ")", p -> p.at(0, 0, 0, plane), OUTSIDE);
            list("part of plane " + plane, p -> p.part(0, 0, 1, 1, plane), OUTSIDE);
            list("counts of plane " + plane, p -> p.counts(0, 0, 0, 0, plane), OUTSIDE);
            list("bound of plane " + plane, p -> p.bound(plane, 0), OUTSIDE);
        }
        int[] sides = {-1, 2, LOW, HIGH};
        for (int side : sides) {
            list("bound(0, " + side + ")", p -> p.bound(0, side), OUTSIDE);
        }
    }

    private static void listPartCalls() {
        int[][] places = {{-1, 0}, {0, -1}, {16, 0}, {0, 16}, {LOW, LOW}, {HIGH, 0}, {0, HIGH}};
        for (int[] c : places) {
            String at = c[0] + ", " + c[1];
            list("at(0, " + at + ", 0)", p -> p.at(0, c[0], c[1], 0), OUTSIDE);
            list("part(" + at + ", 1, 1, 0)", p -> p.part(c[0], c[1], 1, 1, 0), OUTSIDE);
            list("needs(" + at + ", 1, 1)", p -> p.needs(c[0], c[1], 1, 1), OUTSIDE);
            list("counts(" + at + ", 0, 0, 0)", p -> p.counts(c[0], c[1], 0, 0, 0), UNKNOWN);
            list("counts(0, 0, " + at + ", 0)", p -> p.counts(0, 0, c[0], c[1], 0), OUTSIDE);
        }
        int[][] parts = {{0, 1}, {1, 0}, {-1, 1}, {1, -1}, {17, 1}, {1, 17}, {HIGH, 1}, {1, HIGH}, {LOW, LOW}};
        for (int[] s : parts) {
            String size = s[0] + ", " + s[1];
            list("part(0, 0, " + size + ", 0)", p -> p.part(0, 0, s[0], s[1], 0), OUTSIDE);
            list("needs(0, 0, " + size + ")", p -> p.needs(0, 0, s[0], s[1]), OUTSIDE);
        }
        list("part(1, 0, HIGH, 1, 0)", p -> p.part(1, 0, HIGH, 1, 0), OUTSIDE);
        list("part(0, 1, 1, HIGH, 0)", p -> p.part(0, 1, 1, HIGH, 0), OUTSIDE);
        list("needs(1, 0, HIGH, 1)", p -> p.needs(1, 0, HIGH, 1), OUTSIDE);
        list("needs(0, 1, 1, HIGH)", p -> p.needs(0, 1, 1, HIGH), OUTSIDE);
    }

    private static final int STATES = 12;

    /** An object in one of the states that a refused call may meet. */
    private static PicturePath in(int state) {
        if (state == 0) {
            return new PicturePath();
        }
        PicturePath p = Pictures.sized(5, 4);
        for (int i = 0; i < 20; i++) {
            p.cell(i % 5, i / 5, (i * 397 + 11) % 1024);
            p.dead(i % 5, i / 5, i % 6 == 2);
        }
        // none as at first, so that a number at hand brought back to its first one is seen
        for (int i = 0; i < 9; i++) {
            p.entry(i, i % 4 == 0 ? 1700 - 50 * i : 35 * i - 150);
        }
        for (int i = 0; i < 17; i++) {
            p.point(i, 20 + 250 * i);
        }
        switch (state) {
            case 1: break;
            case 2: p.black(17); p.gain(2100, 900, 1300); break;
            case 3: Pictures.addAll(p, 2, 3); break;
            case 4: Pictures.addAll(p, 4); break;
            case 5: Pictures.addAll(p, 2, 4, 5, 6); p.entry(1, 250); p.point(1, 300); break;
            case 6: Pictures.addAll(p, 3, 4, 7); break;
            case 7: Pictures.addAll(p, 4, 7, 5, 7); break;
            case 8: Pictures.addAll(p, 0, 1, 2, 3, 0, 1, 2, 3, 0, 1); break;
            case 9: Pictures.addAll(p, 0, 1, 2, 3, 4, 5, 6, 7, 5, 6); break;
            case 10: Pictures.addAll(p, 2, 4, 5, 6, 5, 6, 5, 6, 5, 6); break;
            default: Pictures.addAll(p, 2, 4); p.point(4, 769); break;
        }
        return p;
    }

    private static void eachStateStays(Call call) {
        boolean[] met = new boolean[call.refusals().length];
        for (int state = 0; state < STATES; state++) {
            PicturePath refused = in(state);
            int answer = call.on().call(refused);
            int which = indexOf(call.refusals(), answer);
            if (which < 0) {
                dues.holds(call.name() + " in state " + state + ", which answered " + answer, answer >= 0);
                continue;
            }
            met[which] = true;
            sameFromHereOn(call.name() + " in state " + state, refused, in(state));
        }
        for (int i = 0; i < met.length; i++) {
            dues.holds(call.name() + " is refused by " + call.refusals()[i] + " in some state", met[i]);
        }
    }

    private static int indexOf(int[] row, int number) {
        for (int i = 0; i < row.length; i++) {
            if (row[i] == number) {
                return i;
            }
        }
        return -1;
    }

    /** The calls that a state refuses, many on one object: as many as leave room, within 512 calls, for those behind. */
    private static void oneBehindAnother() {
        int room = 100;
        for (int state = 0; state < STATES; state++) {
            for (int start = 0; start < CALLS.size(); start += room) {
                PicturePath refused = in(state);
                for (Call call : CALLS.subList(start, Math.min(start + room, CALLS.size()))) {
                    if (call.on().call(in(state)) <= UNKNOWN) {
                        dues.holds(call.name() + " behind others in state " + state, call.on().call(refused) <= UNKNOWN);
                    }
                }
                sameFromHereOn("refused calls from " + start + " on in state " + state, refused, in(state));
            }
        }
    }

    private static void sameFromHereOn(String name, PicturePath refused, PicturePath other) {
        List<Long> got = new ArrayList<>();
        List<Long> want = new ArrayList<>();
        answers(refused, got);
        answers(other, want);
        dues.due(name + ": later answers", got.size(), want.size());
        for (int i = 0; i < want.size(); i++) {
            dues.due(name + ": later answer " + i, got.get(i), want.get(i));
        }
    }

    private static void answers(PicturePath p, List<Long> to) {
        askAll(p, to);
        to.add((long) p.cell(0, 0, 1000));
        to.add((long) p.dead(0, 0, true));
        to.add((long) p.dead(p.count(0) - 1, 0, false));
        to.add((long) p.black(3));
        to.add((long) p.step(4));
        to.add((long) p.matrix());
        to.add((long) p.curve());
        to.add((long) p.step(7));
        to.add(p.digest());
        for (int i = 0; i < 11; i++) {
            to.add((long) p.undo());
            to.add(p.digest());
        }
        for (int i = 0; i < 9; i++) {
            to.add((long) p.entry(i, 100 * i));
        }
        for (int i = 0; i < 17; i++) {
            to.add((long) p.point(i, 200 * i));
        }
        int[] kinds = {1, 0, 2, 3, 4, 5, 6, 7, 7, 5, 6, 7};
        for (int kind : kinds) {
            to.add((long) Pictures.add(p, kind));
            to.add(p.digest());
        }
        to.add((long) p.size(3, 3));
        to.add(p.digest());
    }

    /** What may be asked without a change: each stage, and the last one in several ways. */
    private static void askAll(PicturePath p, List<Long> to) {
        to.add(p.digest());
        for (int what = 0; what < 4; what++) {
            to.add((long) p.count(what));
        }
        for (int k = 0; k <= 10; k++) {
            to.add((long) p.kind(k));
            for (int what = 0; what < 5; what++) {
                to.add((long) p.stage(k, what));
            }
            to.add((long) p.at(k, 0, 0, 0));
            to.add((long) p.at(k, 1, 1, 0));
        }
        for (int plane = 0; plane < 3; plane++) {
            to.add((long) p.part(0, 0, 1, 1, plane));
            to.add((long) p.counts(0, 1, 0, 0, plane));
            to.add((long) p.bound(plane, 0));
            to.add((long) p.bound(plane, 1));
        }
        to.add((long) p.needs(0, 0, 1, 1));
        to.add((long) p.needs(0, 0, 2, 2));
    }
}
