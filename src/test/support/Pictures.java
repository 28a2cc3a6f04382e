/** Objects to begin a test with. An object has 512 calls, of which 16 times 16 cells take 257. */
final class Pictures {
    private Pictures() { }

    static PicturePath sized(int w, int h) {
        PicturePath p = new PicturePath();
        p.size(w, h);
        return p;
    }

    static PicturePath flat(int w, int h, int number) {
        PicturePath p = sized(w, h);
        for (int y = 0; y < h; y++) {
            for (int x = 0; x < w; x++) {
                p.cell(x, y, number);
            }
        }
        return p;
    }

    /** rows[y][x] is the number of the cell in column x, row y. */
    static PicturePath of(int[]... rows) {
        PicturePath p = sized(rows[0].length, rows.length);
        for (int y = 0; y < rows.length; y++) {
            for (int x = 0; x < rows[y].length; x++) {
                p.cell(x, y, rows[y][x]);
            }
        }
        return p;
    }

    /** A cell (x, y) has the number base + 10 x + 100 y, so that its number tells its place. */
    static PicturePath sloping(int w, int h, int base) {
        PicturePath p = sized(w, h);
        for (int y = 0; y < h; y++) {
            for (int x = 0; x < w; x++) {
                p.cell(x, y, base + 10 * x + 100 * y);
            }
        }
        return p;
    }

    /** Adds a step of a kind, with the numbers at hand or such as change nothing. */
    static int add(PicturePath p, int kind) {
        switch (kind) {
            case 0: return p.black(0);
            case 1: return p.gain(1000, 1000, 1000);
            case 5: return p.matrix();
            case 6: return p.curve();
            default: return p.step(kind);
        }
    }

    static void addAll(PicturePath p, int... kinds) {
        for (int kind : kinds) {
            add(p, kind);
        }
    }
}
