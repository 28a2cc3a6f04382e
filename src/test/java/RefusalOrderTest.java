import java.util.Arrays;
import java.util.Map;
import java.util.Set;
import java.util.TreeMap;
import java.util.TreeSet;

/**
 * "Refusals, of several the first as told by each call": each call, with numbers on both sides of each of
 * its edges, in states where a step may stand, may not, and where the path is full.
 */
public final class RefusalOrderTest {
    private static final int NONE = -1, UNKNOWN = -101, OUTSIDE = -102, STATE = -103, FULL = -104;
    private static final int COLOURS = 4, HALF = 7;
    private static final int MOST_STEPS = 10;

    private static final Dues dues = new Dues();
    /** Of each call the sets of refusals that held at once, as bits in the order of the document. */
    private static final Map<String, Set<Integer>> met = new TreeMap<>();
    private static final Map<String, Integer> refusalsOf = new TreeMap<>();

    private static State s;

    private interface On {
        int call(PicturePath p);
    }

    private record Refusal(int code, boolean holds) { }

    /** What the document says of a state, without asking the object for it. */
    private record State(int w, int h, boolean rising, int... kinds) {
        PicturePath made() {
            PicturePath p = Pictures.sized(w, h);
            p.cell(0, 0, 700);
            p.dead(w - 1, h - 1, true);
            Pictures.addAll(p, kinds);
            if (!rising) {
                p.point(16, 0);
            }
            return p;
        }

        int steps() {
            return kinds.length;
        }

        boolean coloured() {
            return Arrays.stream(kinds).anyMatch(kind -> kind == COLOURS);
        }

        int planes(int k) {
            return Arrays.stream(kinds, 0, k).anyMatch(kind -> kind == COLOURS) ? 3 : 1;
        }

        int side(int k, int ofCells) {
            return ofCells >> Arrays.stream(kinds, 0, k).filter(kind -> kind == HALF).count();
        }

        int lastW() {
            return side(steps(), w);
        }

        int lastH() {
            return side(steps(), h);
        }

        boolean mayStand(int kind) {
            if (kind <= COLOURS) {
                return !coloured();
            }
            return coloured() && (kind != HALF || lastW() >= 2 && lastH() >= 2);
        }

        boolean full() {
            return steps() == MOST_STEPS;
        }
    }

    public static void main(String[] args) {
        dues.about("Refusals, of several the first as told by each call");
        int[][] paths = {
            {}, {0}, {2, 3}, {4}, {1, 4, 5, 6}, {4, 7}, {4, 7, 7}, {0, 1, 2, 3, 0, 1, 2, 3, 0, 1},
            {0, 1, 2, 3, 0, 1, 2, 3, 0, 4}, {3, 4, 5, 6, 5, 6, 5, 6, 5, 6}, {4, 7, 7, 5, 6, 5, 6, 5, 6, 5},
        };
        for (int[] path : paths) {
            callInState(new State(5, 4, true, path));
            callInState(new State(5, 4, false, path));
        }
        callInState(new State(1, 1, true));
        callInState(new State(1, 16, true, 4));
        callInState(new State(16, 1, false, 4, 5, 6));
        eachSetWasMet();
        dues.end();
    }

    private static void callInState(State state) {
        s = state;
        cellCalls();
        stepCalls();
        handCalls();
        stageCalls();
        partCalls();
        countsCalls();
        toldCalls();
    }

    /** The least and the greatest right number, and those just beyond. */
    private static int[] edges(int least, int greatest) {
        return new int[] {least - 1, least, greatest, greatest + 1};
    }

    private static boolean in(int v, int least, int greatest) {
        return v >= least && v <= greatest;
    }

    private static Refusal when(int code, boolean holds) {
        return new Refusal(code, holds);
    }

    private static void tell(String name, String arguments, On on, Refusal... inOrder) {
        PicturePath p = s.made();
        long before = p.digest();
        int got = on.call(p);
        int first = 0;
        int held = 0;
        for (int i = inOrder.length - 1; i >= 0; i--) {
            if (inOrder[i].holds()) {
                first = inOrder[i].code();
                held |= 1 << i;
            }
        }
        met.computeIfAbsent(name, n -> new TreeSet<>()).add(held);
        refusalsOf.put(name, inOrder.length);
        String call = name + "(" + arguments + ") in " + s + " " + Arrays.toString(s.kinds());
        if (held == 0) {
            dues.holds(call + ", which answered " + got + ", is not refused", got >= 0);
        } else {
            dues.due(call, got, first);
            dues.due("digest behind " + call, p.digest(), before);
        }
    }

    private static void cellCalls() {
        for (int x : edges(1, 16)) {
            for (int y : edges(1, 16)) {
                tell("size", x + ", " + y, p -> p.size(x, y), when(OUTSIDE, !in(x, 1, 16) || !in(y, 1, 16)));
            }
        }
        for (int x : edges(0, s.w() - 1)) {
            for (int y : edges(0, s.h() - 1)) {
                Refusal noPlace = when(UNKNOWN, !in(x, 0, s.w() - 1) || !in(y, 0, s.h() - 1));
                tell("dead", x + ", " + y, p -> p.dead(x, y, true), noPlace);
                for (int v : edges(0, 1023)) {
                    tell("cell", x + ", " + y + ", " + v, p -> p.cell(x, y, v), noPlace, when(OUTSIDE, !in(v, 0, 1023)));
                }
            }
        }
    }

    private static void stepCalls() {
        Refusal full = when(FULL, s.full());
        for (int k : edges(0, 1023)) {
            tell("black", "" + k, p -> p.black(k), when(OUTSIDE, !in(k, 0, 1023)), when(STATE, !s.mayStand(0)), full);
        }
        for (int r : edges(0, 8000)) {
            for (int g : edges(0, 8000)) {
                for (int b : edges(0, 8000)) {
                    boolean right = in(r, 0, 8000) && in(g, 0, 8000) && in(b, 0, 8000);
                    tell("gain", r + ", " + g + ", " + b, p -> p.gain(r, g, b),
                        when(OUTSIDE, !right), when(STATE, !s.mayStand(1)), full);
                }
            }
        }
        for (int kind = -1; kind <= 8; kind++) {
            int it = kind;
            boolean right = it == 2 || it == 3 || it == 4 || it == 7;
            tell("step", "" + it, p -> p.step(it), when(OUTSIDE, !right), when(STATE, !s.mayStand(it)), full);
        }
        tell("matrix", "", p -> p.matrix(), when(STATE, !s.mayStand(5)), full);
        tell("curve", "", p -> p.curve(), when(OUTSIDE, !s.rising()), when(STATE, !s.mayStand(6)), full);
        tell("undo", "", p -> p.undo(), when(STATE, s.steps() == 0));
        for (int k : edges(0, s.steps() - 1)) {
            tell("kind", "" + k, p -> p.kind(k), when(NONE, !in(k, 0, s.steps() - 1)));
        }
    }

    private static void handCalls() {
        for (int i : edges(0, 8)) {
            for (int v : edges(-4000, 4000)) {
                // what it was is 0 or more in each state, so that no answer looks like a refusal
                tell("entry", i + ", " + v, p -> p.entry(i, v), when(UNKNOWN, !in(i, 0, 8)), when(OUTSIDE, !in(v, -4000, 4000)));
            }
        }
        for (int i : edges(0, 16)) {
            for (int v : edges(0, 4095)) {
                tell("point", i + ", " + v, p -> p.point(i, v), when(UNKNOWN, !in(i, 0, 16)), when(OUTSIDE, !in(v, 0, 4095)));
            }
        }
    }

    private static void stageCalls() {
        for (int k : edges(0, s.steps())) {
            Refusal noStage = when(UNKNOWN, !in(k, 0, s.steps()));
            for (int what : edges(0, 4)) {
                tell("stage", k + ", " + what, p -> p.stage(k, what), noStage, when(OUTSIDE, !in(what, 0, 4)));
            }
            int like = Math.max(0, Math.min(k, s.steps()));
            int w = s.side(like, s.w());
            int h = s.side(like, s.h());
            int planes = s.planes(like);
            for (int x : edges(0, w - 1)) {
                for (int y : edges(0, h - 1)) {
                    for (int plane : edges(0, planes - 1)) {
                        boolean right = in(x, 0, w - 1) && in(y, 0, h - 1) && in(plane, 0, planes - 1);
                        tell("at", k + ", " + x + ", " + y + ", " + plane, p -> p.at(k, x, y, plane),
                            noStage, when(OUTSIDE, !right));
                    }
                }
            }
        }
    }

    private static void partCalls() {
        int planes = s.planes(s.steps());
        for (int x : edges(0, s.lastW() - 1)) {
            for (int y : edges(0, s.lastH() - 1)) {
                for (int w : edges(1, s.lastW() - x)) {
                    for (int h : edges(1, s.lastH() - y)) {
                        boolean right = x >= 0 && y >= 0 && w >= 1 && h >= 1 && x + w <= s.lastW() && y + h <= s.lastH();
                        String part = x + ", " + y + ", " + w + ", " + h;
                        tell("needs", part, p -> p.needs(x, y, w, h), when(OUTSIDE, !right));
                        for (int plane : edges(0, planes - 1)) {
                            tell("part", part + ", " + plane, p -> p.part(x, y, w, h, plane),
                                when(OUTSIDE, !right || !in(plane, 0, planes - 1)));
                        }
                    }
                }
            }
        }
    }

    private static void countsCalls() {
        for (int cx : edges(0, s.w() - 1)) {
            for (int cy : edges(0, s.h() - 1)) {
                countsOfCell(cx, cy);
            }
        }
    }

    private static void countsOfCell(int cx, int cy) {
        int planes = s.planes(s.steps());
        boolean there = in(cx, 0, s.w() - 1) && in(cy, 0, s.h() - 1);
        for (int x : edges(0, s.lastW() - 1)) {
            for (int y : edges(0, s.lastH() - 1)) {
                for (int plane : edges(0, planes - 1)) {
                    boolean right = in(x, 0, s.lastW() - 1) && in(y, 0, s.lastH() - 1) && in(plane, 0, planes - 1);
                    tell("counts", cx + ", " + cy + ", " + x + ", " + y + ", " + plane,
                        p -> p.counts(cx, cy, x, y, plane), when(UNKNOWN, !there), when(OUTSIDE, !right));
                }
            }
        }
    }

    private static void toldCalls() {
        int planes = s.planes(s.steps());
        for (int plane : edges(0, planes - 1)) {
            for (int side : edges(0, 1)) {
                tell("bound", plane + ", " + side, p -> p.bound(plane, side),
                    when(OUTSIDE, !in(plane, 0, planes - 1) || !in(side, 0, 1)));
            }
        }
        for (int what : edges(0, 3)) {
            tell("count", "" + what, p -> p.count(what), when(OUTSIDE, !in(what, 0, 3)));
        }
    }

    /** All but digest may be refused; each set of a call's refusals, the empty one too, can hold at once. */
    private static void eachSetWasMet() {
        dues.due("calls that may be refused", met.size(), 19);
        for (Map.Entry<String, Set<Integer>> call : met.entrySet()) {
            int refusals = refusalsOf.get(call.getKey());
            dues.due("sets of refusals of " + call.getKey(), call.getValue().size(), 1 << refusals);
        }
    }
}
