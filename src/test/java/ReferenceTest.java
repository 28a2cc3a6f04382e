import java.util.ArrayList;
import java.util.BitSet;
import java.util.List;
import java.util.Random;

/**
 * Runs of calls against a second program written from the document in another way: it makes
 * every stage whole, and carries the set of cells that count along with each number.
 */
public final class ReferenceTest {
    private static final int UNKNOWN = -101, OUTSIDE = -102, STATE = -103, FULL = -104;
    private static final int RUNS = 300;
    private static final int CALLS = 512;

    private static final Dues dues = new Dues();

    public static void main(String[] args) {
        for (int run = 0; run < RUNS; run++) {
            new Run(run).play();
        }
        dues.end();
    }

    /** A number of a picture and the cells that count for it. */
    private record Spot(int number, BitSet cells) { }

    /** A picture: spots[plane][y][x]. */
    private static final class Picture {
        final int width;
        final int height;
        final Spot[][][] spots;

        Picture(int width, int height, int planes) {
            this.width = width;
            this.height = height;
            spots = new Spot[planes][height][width];
        }

        boolean has(int x, int y) {
            return x >= 0 && y >= 0 && x < width && y < height;
        }
    }

    private record Told(int kind, int[] numbers) { }

    /** The second program. */
    private static final class Model {
        int width = 1;
        int height = 1;
        int[][] cells = new int[1][1];
        boolean[][] dead = new boolean[1][1];
        List<Told> path = new ArrayList<>();
        int[] matrix = {1000, 0, 0, 0, 1000, 0, 0, 0, 1000};
        int[] curve = {0, 256, 512, 768, 1024, 1280, 1536, 1792, 2048, 2304, 2560, 2816, 3072, 3328, 3584, 3840, 4095};

        static int colour(int x, int y) {
            if (x % 2 == 0 && y % 2 == 0) {
                return 0;
            }
            return x % 2 == 1 && y % 2 == 1 ? 2 : 1;
        }

        Picture picture(int k) {
            Picture p = new Picture(width, height, 1);
            for (int y = 0; y < height; y++) {
                for (int x = 0; x < width; x++) {
                    BitSet itself = new BitSet();
                    itself.set(y * width + x);
                    p.spots[0][y][x] = new Spot(cells[y][x], itself);
                }
            }
            for (int j = 0; j < k; j++) {
                p = behind(p, path.get(j));
            }
            return p;
        }

        Picture behind(Picture p, Told told) {
            int kind = told.kind();
            int planes = kind == 4 ? 3 : p.spots.length;
            int by = kind == 7 ? 2 : 1;
            Picture q = new Picture(p.width / by, p.height / by, planes);
            for (int plane = 0; plane < planes; plane++) {
                for (int y = 0; y < q.height; y++) {
                    for (int x = 0; x < q.width; x++) {
                        Spot made = spot(p, told, x, y, plane);
                        q.spots[plane][y][x] = new Spot(Math.min(4095, Math.max(0, made.number())), made.cells());
                    }
                }
            }
            return q;
        }

        Spot spot(Picture p, Told told, int x, int y, int plane) {
            int[] n = told.numbers();
            List<Spot> looked = new ArrayList<>();
            Spot own = told.kind() == 4 || told.kind() == 7 ? null : p.spots[plane][y][x];
            switch (told.kind()) {
                case 0: return new Spot(own.number() - n[0], own.cells());
                case 1: return new Spot((int) Math.floor(own.number() * (double) n[colour(x, y)] / 1000), own.cells());
                case 2: return mend(p, x, y);
                case 3: return middle(p, x, y);
                case 4: return fill(p, x, y, plane);
                case 5: {
                    long sum = 0;
                    for (int from = 0; from < 3; from++) {
                        looked.add(p.spots[from][y][x]);
                        sum += (long) n[3 * plane + from] * p.spots[from][y][x].number();
                    }
                    return new Spot((int) Math.floorDiv(sum, 1000L), union(looked));
                }
                case 6: {
                    int i = own.number() >> 8;
                    int way = own.number() & 255;
                    return new Spot(n[i] + ((n[i + 1] - n[i]) * way >> 8), own.cells());
                }
                default: {
                    looked.add(p.spots[plane][2 * y][2 * x]);
                    looked.add(p.spots[plane][2 * y][2 * x + 1]);
                    looked.add(p.spots[plane][2 * y + 1][2 * x]);
                    looked.add(p.spots[plane][2 * y + 1][2 * x + 1]);
                    return new Spot(looked.stream().mapToInt(Spot::number).sum() >> 2, union(looked));
                }
            }
        }

        Spot mend(Picture p, int x, int y) {
            List<Spot> looked = new ArrayList<>();
            List<Spot> live = new ArrayList<>();
            Spot own = p.spots[0][y][x];
            looked.add(own);
            int[][] four = {{x - 2, y}, {x + 2, y}, {x, y - 2}, {x, y + 2}};
            for (int[] c : four) {
                if (p.has(c[0], c[1])) {
                    looked.add(p.spots[0][c[1]][c[0]]);
                    if (!dead[c[1]][c[0]]) {
                        live.add(p.spots[0][c[1]][c[0]]);
                    }
                }
            }
            boolean stays = !dead[y][x] || live.isEmpty();
            int number = stays ? own.number() : live.stream().mapToInt(Spot::number).sum() / live.size();
            return new Spot(number, union(looked));
        }

        static Spot middle(Picture p, int x, int y) {
            List<Spot> five = new ArrayList<>();
            Spot own = p.spots[0][y][x];
            five.add(own);
            five.add(x >= 2 ? p.spots[0][y][x - 2] : own);
            five.add(x + 2 < p.width ? p.spots[0][y][x + 2] : own);
            five.add(y >= 2 ? p.spots[0][y - 2][x] : own);
            five.add(y + 2 < p.height ? p.spots[0][y + 2][x] : own);
            BitSet all = union(five);
            return new Spot(five.stream().mapToInt(Spot::number).sorted().skip(2).findFirst().getAsInt(), all);
        }

        static Spot fill(Picture p, int x, int y, int plane) {
            if (colour(x, y) == plane) {
                return p.spots[0][y][x];
            }
            List<Spot> looked = new ArrayList<>();
            for (int i = 0; i < 9; i++) {
                int ax = x + i % 3 - 1;
                int ay = y + i / 3 - 1;
                if (i != 4 && p.has(ax, ay) && colour(ax, ay) == plane) {
                    looked.add(p.spots[0][ay][ax]);
                }
            }
            int number = looked.isEmpty() ? 0 : looked.stream().mapToInt(Spot::number).sum() / looked.size();
            return new Spot(number, union(looked));
        }

        static BitSet union(List<Spot> looked) {
            BitSet all = new BitSet();
            for (Spot s : looked) {
                all.or(s.cells());
            }
            return all;
        }

        boolean coloured() {
            return path.stream().anyMatch(t -> t.kind() == 4);
        }

        int shape(int k, boolean wide) {
            int side = wide ? width : height;
            for (int j = 0; j < k; j++) {
                side = path.get(j).kind() == 7 ? side / 2 : side;
            }
            return side;
        }

        int scale(int k) {
            return 1 << path.subList(0, k).stream().filter(t -> t.kind() == 7).count();
        }

        /** By what the lag is for: the lowest row of very high cells that row 0 of a stage hangs on. */
        int lag(int k) {
            int row = 0;
            for (int j = k - 1; j >= 0; j--) {
                int kind = path.get(j).kind();
                row = kind == 7 ? 2 * row + 1 : kind == 4 ? row + 1 : kind == 2 || kind == 3 ? row + 2 : row;
            }
            return row;
        }

        int add(int kind, int... numbers) {
            boolean may = kind <= 4 ? !coloured() : coloured();
            int last = path.size();
            if (kind == 7 && (shape(last, true) < 2 || shape(last, false) < 2)) {
                may = false;
            }
            if (!may) {
                return STATE;
            }
            if (last == 10) {
                return FULL;
            }
            path.add(new Told(kind, numbers.clone()));
            return path.size();
        }

        int planes(int k) {
            return path.subList(0, k).stream().anyMatch(t -> t.kind() == 4) ? 3 : 1;
        }

        long digest() {
            List<Integer> all = new ArrayList<>(List.of(width, height));
            for (int y = 0; y < height; y++) {
                for (int x = 0; x < width; x++) {
                    all.add(cells[y][x] + (dead[y][x] ? 5000 : 0));
                }
            }
            for (Told t : path) {
                all.add(t.kind());
                addAll(all, t.numbers());
            }
            addAll(all, matrix);
            addAll(all, curve);
            Picture p = picture(path.size());
            for (int y = 0; y < p.height; y++) {
                for (int x = 0; x < p.width; x++) {
                    for (Spot[][] plane : p.spots) {
                        all.add(plane[y][x].number());
                    }
                }
            }
            long h = 109;
            for (int number : all) {
                h = h * 31 + number;
            }
            return h;
        }

        static void addAll(List<Integer> all, int[] numbers) {
            for (int number : numbers) {
                all.add(number);
            }
        }
    }

    /** One run of calls on one object, from a seed of its own. */
    private static final class Run {
        final int seed;
        final Random random;
        final Model m = new Model();
        final PicturePath p = new PicturePath();
        int calls;

        Run(int seed) {
            this.seed = seed;
            random = new Random(seed);
        }

        void play() {
            size(1 + random.nextInt(16), 1 + random.nextInt(16));
            for (int i = 0; i < 100; i++) {
                cell();
            }
            while (calls < CALLS) {
                callOrPass(random.nextInt(32));
            }
        }

        void due(String call, long got, long want) {
            calls++;
            dues.due("seed " + seed + ", call " + calls + ": " + call, got, want);
        }

        /** Most often least to greatest, sometimes just beyond, seldom far beyond. */
        int some(int least, int greatest) {
            int turn = random.nextInt(60);
            if (turn == 0) {
                return random.nextBoolean() ? least - 1 : greatest + 1;
            }
            if (turn == 1) {
                int[] far = {Integer.MIN_VALUE, Integer.MAX_VALUE, random.nextInt()};
                return far[random.nextInt(3)];
            }
            return least + random.nextInt(greatest - least + 1);
        }

        static boolean in(int v, int least, int greatest) {
            return v >= least && v <= greatest;
        }

        /** Not every turn is a call: sizes and undos are passed over at times. */
        void callOrPass(int which) {
            switch (which) {
                case 0: if (random.nextInt(8) == 0) { size(some(1, 16), some(1, 16)); } break;
                case 1: case 2: cell(); break;
                case 3: case 4: dead(); break;
                case 5: black(); break;
                case 6: gain(); break;
                case 7: step(random.nextBoolean() ? 2 : 3); break;
                case 8: step(some(0, 8)); break;
                case 9: step(7); break;
                case 10: case 11: entry(); break;
                case 12: due("matrix", p.matrix(), m.add(5, m.matrix)); break;
                case 13: point(); break;
                case 14: curve(); break;
                case 15: case 16: case 17: undo(); break;
                case 18: kind(); break;
                case 19: case 20: stage(); break;
                case 21: case 22: case 23: at(); break;
                case 24: case 25: part(); break;
                case 26: needs(); break;
                case 27: case 28: counts(); break;
                case 29: bound(); break;
                case 30: count(); break;
                default: due("digest", p.digest(), m.digest()); break;
            }
        }

        void size(int w, int h) {
            boolean right = in(w, 1, 16) && in(h, 1, 16);
            if (right) {
                m.width = w;
                m.height = h;
                m.cells = new int[h][w];
                m.dead = new boolean[h][w];
                m.path.clear();
            }
            due("size", p.size(w, h), right ? w * h : OUTSIDE);
        }

        void cell() {
            int x = some(0, m.width - 1);
            int y = some(0, m.height - 1);
            int v = some(0, 1023);
            int want = OUTSIDE;
            if (!in(x, 0, m.width - 1) || !in(y, 0, m.height - 1)) {
                want = UNKNOWN;
            } else if (in(v, 0, 1023)) {
                want = m.cells[y][x];
                m.cells[y][x] = v;
            }
            due("cell", p.cell(x, y, v), want);
        }

        void dead() {
            int x = some(0, m.width - 1);
            int y = some(0, m.height - 1);
            boolean is = random.nextInt(3) > 0;
            int want = UNKNOWN;
            if (in(x, 0, m.width - 1) && in(y, 0, m.height - 1)) {
                want = m.dead[y][x] ? 1 : 0;
                m.dead[y][x] = is;
            }
            due("dead", p.dead(x, y, is), want);
        }

        void black() {
            int k = some(0, random.nextBoolean() ? 50 : 1023);
            due("black", p.black(k), in(k, 0, 1023) ? m.add(0, k) : OUTSIDE);
        }

        void gain() {
            int[] n = {some(0, 8000), some(0, 8000), some(0, 8000)};
            boolean right = in(n[0], 0, 8000) && in(n[1], 0, 8000) && in(n[2], 0, 8000);
            due("gain", p.gain(n[0], n[1], n[2]), right ? m.add(1, n) : OUTSIDE);
        }

        void step(int kind) {
            boolean right = kind == 2 || kind == 3 || kind == 4 || kind == 7;
            due("step", p.step(kind), right ? m.add(kind) : OUTSIDE);
        }

        void entry() {
            int i = some(0, 8);
            int v = random.nextBoolean() ? some(-4000, 4000) : some(-500, 1500);
            int want = in(i, 0, 8) ? in(v, -4000, 4000) ? m.matrix[i] : OUTSIDE : UNKNOWN;
            if (in(i, 0, 8) && in(v, -4000, 4000)) {
                m.matrix[i] = v;
            }
            due("entry", p.entry(i, v), want);
        }

        void point() {
            int i = some(0, 16);
            // mostly near its first number, so that a curve is often in order
            int v = random.nextInt(20) == 0 ? some(0, 4095) : Math.min(4095, Math.max(0, 256 * i)) - random.nextInt(2);
            int want = in(i, 0, 16) ? in(v, 0, 4095) ? m.curve[i] : OUTSIDE : UNKNOWN;
            if (in(i, 0, 16) && in(v, 0, 4095)) {
                m.curve[i] = v;
            }
            due("point", p.point(i, v), want);
        }

        void curve() {
            boolean rising = true;
            for (int i = 0; i < 16; i++) {
                rising &= m.curve[i] <= m.curve[i + 1];
            }
            due("curve", p.curve(), rising ? m.add(6, m.curve) : OUTSIDE);
        }

        void undo() {
            // an undo more seldom while there are few steps, so that paths grow long
            if (m.path.size() < 5 && random.nextInt(3) > 0) {
                return;
            }
            int want = m.path.isEmpty() ? STATE : m.path.size() - 1;
            if (want != STATE) {
                m.path.remove(want);
            }
            due("undo", p.undo(), want);
        }

        void kind() {
            int k = some(0, 10);
            due("kind", p.kind(k), in(k, 0, m.path.size() - 1) ? m.path.get(k).kind() : -1);
        }

        void stage() {
            int k = some(0, m.path.size());
            int what = some(0, 4);
            int want = UNKNOWN;
            if (in(k, 0, m.path.size())) {
                switch (what) {
                    case 0: want = m.shape(k, true); break;
                    case 1: want = m.shape(k, false); break;
                    case 2: want = m.planes(k); break;
                    case 3: want = m.lag(k); break;
                    case 4: want = m.scale(k); break;
                    default: want = OUTSIDE; break;
                }
            }
            due("stage", p.stage(k, what), want);
        }

        void at() {
            int k = some(0, m.path.size());
            boolean known = in(k, 0, m.path.size());
            int x = some(0, m.shape(known ? k : 0, true) - 1);
            int y = some(0, m.shape(known ? k : 0, false) - 1);
            int plane = some(0, m.planes(known ? k : 0) - 1);
            int want = UNKNOWN;
            if (known) {
                Picture q = m.picture(k);
                want = q.has(x, y) && in(plane, 0, q.spots.length - 1) ? q.spots[plane][y][x].number() : OUTSIDE;
            }
            due("at", p.at(k, x, y, plane), want);
        }

        int[] somePart(Picture q) {
            int x = some(0, q.width - 1);
            int y = some(0, q.height - 1);
            int w = some(1, in(x, 0, q.width - 1) ? q.width - x : q.width);
            int h = some(1, in(y, 0, q.height - 1) ? q.height - y : q.height);
            return new int[] {x, y, w, h};
        }

        static boolean within(Picture q, int[] r) {
            return r[0] >= 0 && r[1] >= 0 && r[2] >= 1 && r[3] >= 1
                && (long) r[0] + r[2] <= q.width && (long) r[1] + r[3] <= q.height;
        }

        void part() {
            Picture q = m.picture(m.path.size());
            int[] r = somePart(q);
            int plane = some(0, q.spots.length - 1);
            int want = OUTSIDE;
            if (within(q, r) && in(plane, 0, q.spots.length - 1)) {
                want = 0;
                for (int y = r[1]; y < r[1] + r[3]; y++) {
                    for (int x = r[0]; x < r[0] + r[2]; x++) {
                        want += q.spots[plane][y][x].number();
                    }
                }
            }
            due("part", p.part(r[0], r[1], r[2], r[3], plane), want);
        }

        void needs() {
            Picture q = m.picture(m.path.size());
            int[] r = somePart(q);
            int want = OUTSIDE;
            if (within(q, r)) {
                BitSet all = new BitSet();
                for (Spot[][] plane : q.spots) {
                    for (int y = r[1]; y < r[1] + r[3]; y++) {
                        for (int x = r[0]; x < r[0] + r[2]; x++) {
                            all.or(plane[y][x].cells());
                        }
                    }
                }
                want = all.cardinality();
            }
            due("needs", p.needs(r[0], r[1], r[2], r[3]), want);
        }

        void counts() {
            Picture q = m.picture(m.path.size());
            int cx = some(0, m.width - 1);
            int cy = some(0, m.height - 1);
            int x = some(0, q.width - 1);
            int y = some(0, q.height - 1);
            int plane = some(0, q.spots.length - 1);
            int want = OUTSIDE;
            if (!in(cx, 0, m.width - 1) || !in(cy, 0, m.height - 1)) {
                want = UNKNOWN;
            } else if (q.has(x, y) && in(plane, 0, q.spots.length - 1)) {
                want = q.spots[plane][y][x].cells().get(cy * m.width + cx) ? 1 : 0;
            }
            due("counts", p.counts(cx, cy, x, y, plane), want);
        }

        void bound() {
            Picture q = m.picture(m.path.size());
            int plane = some(0, q.spots.length - 1);
            int side = some(0, 1);
            int want = OUTSIDE;
            if (in(plane, 0, q.spots.length - 1) && in(side, 0, 1)) {
                want = q.spots[plane][0][0].number();
                for (Spot[] row : q.spots[plane]) {
                    for (Spot s : row) {
                        want = side == 0 ? Math.min(want, s.number()) : Math.max(want, s.number());
                    }
                }
            }
            due("bound", p.bound(plane, side), want);
        }

        void count() {
            int what = some(0, 3);
            int want = OUTSIDE;
            if (in(what, 0, 3)) {
                int many = 0;
                for (boolean[] row : m.dead) {
                    for (boolean one : row) {
                        many += one ? 1 : 0;
                    }
                }
                want = new int[] {m.width, m.height, many, m.path.size()}[what];
            }
            due("count", p.count(what), want);
        }
    }
}
