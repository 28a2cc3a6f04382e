/** The sentences on what each kind of step makes that name an edge: a side, a corner, none there, rounding, 0 to 4095. */
public final class StepEdgesTest {
    private static final int MEND = 2, MIDDLE = 3, COLOURS = 4, HALF = 7;

    private static final Dues dues = new Dues();

    public static void main(String[] args) {
        colourOfEachPlace();
        blackIsAtLeast0();
        blackOfGreatNumbers();
        gainIsRoundedDown();
        gainIsAtMost4095();
        gainOfGreatNumbers();
        mendOfADeadCellAlone();
        mendIsOfThoseTwoAway();
        mendByHowManyThereAre();
        mendIsRoundedDown();
        mendWithoutAnyNearStays();
        mendWithoutAnyNearThatIsNotDeadStays();
        mendAtSidesAndCorners();
        mendDoesNotReachAcrossASide();
        mendLooksAtThePictureAhead();
        mendTwice();
        mendOfNumbersBehindSteps();
        middleOfAnyOrder();
        middleOfAlikeOnes();
        middleAtSidesAndCorners();
        middleOfNoneAround();
        middleDoesNotReachAcrossASide();
        middleLooksAtThePictureAhead();
        coloursOfOwn();
        coloursOfAnother();
        coloursAtSidesAndCorners();
        coloursWithoutAny();
        coloursAreRoundedDown();
        coloursDoNotReachAcrossASide();
        deadCellsAreLikeOthersBesideMend();
        matrixAtFirstChangesNothing();
        matrixEntriesEach();
        matrixIsRoundedDownOnce();
        matrixJustBelowAWhole();
        matrixIsAtLeast0();
        matrixIsAtMost4095();
        matrixOfNumbersBeyondAtFirst();
        curveAtEachPoint();
        curveBetweenPoints();
        curveAtFirst();
        curveOf4095();
        curveIsSteep();
        halfIsOfFour();
        halfIsRoundedDown();
        halfLeavesOutTheOdd();
        halfOfGreatNumbers();
        halfOfEachPlane();
        halfOfHalf();
        broughtTo4095BehindEachStep();
        broughtTo0BehindEachStep();
        dues.end();
    }

    private static void due(String call, long got, long want) {
        dues.due(call, got, want);
    }

    /** The place (0, 0) of stage 2 has these three numbers, each of them five times some number. */
    private static PicturePath three(int first, int second, int third) {
        PicturePath p = Pictures.sized(2, 2);
        p.gain(5000, 5000, 5000);
        p.step(COLOURS);
        // (0, 0) has the colour 0, beside it two of colour 1 and one of colour 2
        p.cell(0, 0, first / 5);
        p.cell(1, 0, second / 5);
        p.cell(0, 1, second / 5);
        p.cell(1, 1, third / 5);
        return p;
    }

    private static void entries(PicturePath p, int... m) {
        for (int i = 0; i < 9; i++) {
            p.entry(i, m[i]);
        }
    }

    private static void colourOfEachPlace() {
        dues.about("COLOUR of (x, y): 0 if both are even, 2 if both are odd, else 1");
        PicturePath p = Pictures.sized(16, 16);
        for (int y = 0; y < 16; y++) {
            for (int x = 0; x < 16; x++) {
                p.cell(x, y, 100);
            }
        }
        p.gain(1000, 2000, 3000);
        for (int i = 0; i < 16; i++) {
            int odd = i % 2;
            due("at(1, " + i + ", 0)", p.at(1, i, 0, 0), odd == 0 ? 100 : 200);
            due("at(1, 0, " + i + ")", p.at(1, 0, i, 0), odd == 0 ? 100 : 200);
            due("at(1, " + i + ", 15)", p.at(1, i, 15, 0), odd == 0 ? 200 : 300);
            due("at(1, 15, " + i + ")", p.at(1, 15, i, 0), odd == 0 ? 200 : 300);
            due("at(1, " + i + ", " + i + ")", p.at(1, i, i, 0), odd == 0 ? 100 : 300);
        }
        due("sum", p.part(0, 0, 16, 16, 0), 64 * 100 + 128 * 200 + 64 * 300);
    }

    private static void blackIsAtLeast0() {
        dues.about("BLACK k: each number less k, at least 0");
        int[][] rows = {{0, 0, 0}, {1, 0, 1}, {0, 1, 0}, {5, 5, 0}, {5, 6, 0}, {6, 5, 1}, {1023, 1023, 0}, {1023, 1022, 1},
            {1022, 1023, 0}, {1023, 0, 1023}, {0, 1023, 0}};
        for (int[] r : rows) {
            PicturePath p = Pictures.flat(1, 1, r[0]);
            p.black(r[1]);
            due(r[0] + " less " + r[1], p.at(1, 0, 0, 0), r[2]);
        }
    }

    private static void blackOfGreatNumbers() {
        dues.about("BLACK k of 4095");
        PicturePath p = Pictures.flat(1, 1, 1023);
        p.gain(8000, 8000, 8000);
        p.black(1023);
        p.black(1023);
        p.black(1023);
        p.black(1023);
        p.black(1023);
        due("once", p.at(2, 0, 0, 0), 3072);
        due("four times", p.at(5, 0, 0, 0), 3);
        due("five times", p.at(6, 0, 0, 0), 0);
    }

    private static void gainIsRoundedDown() {
        dues.about("GAIN: by 1000, rounded down");
        int[][] rows = {{1, 999, 0}, {1, 1000, 1}, {1, 1001, 1}, {1, 1999, 1}, {1, 2000, 2}, {999, 1, 0}, {1000, 1, 1},
            {1001, 1, 1}, {1023, 999, 1021}, {1023, 1001, 1024}, {7, 7999, 55}, {0, 8000, 0}, {1023, 0, 0}, {3, 500, 1}};
        for (int[] r : rows) {
            PicturePath p = Pictures.flat(1, 1, r[0]);
            p.gain(r[1], 0, 0);
            due(r[0] + " times " + r[1], p.at(1, 0, 0, 0), r[2]);
        }
    }

    private static void gainIsAtMost4095() {
        dues.about("GAIN: brought to 0 to 4095");
        int[][] rows = {{511, 8000, 4088}, {512, 8000, 4095}, {1023, 8000, 4095}, {1023, 4003, 4095}, {1023, 4002, 4094},
            {1023, 4004, 4095}, {819, 5000, 4095}, {1000, 4095, 4095}, {1000, 4096, 4095}, {1000, 4094, 4094}};
        for (int[] r : rows) {
            PicturePath p = Pictures.flat(1, 1, r[0]);
            p.gain(r[1], 0, 0);
            due(r[0] + " times " + r[1], p.at(1, 0, 0, 0), r[2]);
        }
    }

    private static void gainOfGreatNumbers() {
        dues.about("GAIN of 4095");
        PicturePath p = Pictures.flat(1, 1, 1023);
        p.gain(8000, 0, 0);
        p.gain(8000, 0, 0);
        due("8000 twice", p.at(2, 0, 0, 0), 4095);
        p.gain(999, 0, 0);
        due("then 999", p.at(3, 0, 0, 0), 4090);
    }

    private static void mendOfADeadCellAlone() {
        dues.about("MEND: a DEAD cell's");
        PicturePath p = Pictures.sloping(5, 5, 1);
        p.step(MEND);
        for (int i = 0; i < 5; i++) {
            due("of none that is DEAD (" + i + ", 3)", p.at(1, i, 3, 0), 301 + 10 * i);
        }
        p.cell(2, 2, 1000);
        p.dead(2, 2, true);
        due("of the DEAD one", p.at(1, 2, 2, 0), (21 + 421 + 201 + 241) / 4);
        due("of one NEAR it", p.at(1, 2, 4, 0), 421);
        due("of one beside it", p.at(1, 3, 2, 0), 231);
        due("of all others", p.part(0, 0, 5, 5, 0), 25 + 5 * 100 + 5 * 1000);
    }

    private static void mendIsOfThoseTwoAway() {
        dues.about("NEAR of a cell: those two to the left, right, up, down");
        int[][] near = {{1, 3}, {5, 3}, {3, 1}, {3, 5}};
        for (int y = 0; y < 7; y++) {
            for (int x = 0; x < 7; x++) {
                PicturePath p = Pictures.sized(7, 7);
                p.dead(3, 3, true);
                p.cell(x, y, 400);
                p.step(MEND);
                boolean is = false;
                for (int[] c : near) {
                    is |= c[0] == x && c[1] == y;
                }
                due("400 at (" + x + ", " + y + ")", p.at(1, 3, 3, 0), is ? 100 : 0);
            }
        }
    }

    private static void mendByHowManyThereAre() {
        dues.about("MEND: of its NEAR that are not DEAD by how many there are");
        int[][] near = {{1, 3}, {5, 3}, {3, 1}, {3, 5}};
        int[] numbers = {100, 200, 400, 800};
        for (int which = 0; which < 16; which++) {
            PicturePath p = Pictures.sized(7, 7);
            p.cell(3, 3, 7);
            p.dead(3, 3, true);
            int sum = 0;
            int many = 0;
            for (int i = 0; i < 4; i++) {
                p.cell(near[i][0], near[i][1], numbers[i]);
                if ((which >> i & 1) == 1) {
                    p.dead(near[i][0], near[i][1], true);
                } else {
                    sum += numbers[i];
                    many++;
                }
            }
            p.step(MEND);
            due("DEAD ones by " + which, p.at(1, 3, 3, 0), many == 0 ? 7 : sum / many);
        }
    }

    private static void mendIsRoundedDown() {
        dues.about("MEND: rounded down");
        int[][] rows = {{1, 0, 0}, {1, 1, 1}, {1, 2, 1}, {0, 1023, 511}, {1022, 1023, 1022}, {1023, 1023, 1023}};
        for (int[] r : rows) {
            PicturePath p = Pictures.of(new int[] {r[0], 0, 900, 0, r[1]});
            p.dead(2, 0, true);
            p.step(MEND);
            due("of " + r[0] + " and " + r[1], p.at(1, 2, 0, 0), r[2]);
        }
        PicturePath four = Pictures.flat(5, 5, 1023);
        four.cell(0, 2, 1020);
        four.dead(2, 2, true);
        four.step(MEND);
        due("of four", four.at(1, 2, 2, 0), 1022);
    }

    private static void mendWithoutAnyNearStays() {
        dues.about("MEND: without any it stays, none being there");
        int[][] sizes = {{1, 1}, {1, 2}, {2, 1}, {2, 2}};
        for (int[] s : sizes) {
            PicturePath p = Pictures.flat(s[0], s[1], 50);
            p.cell(0, 0, 900);
            p.dead(0, 0, true);
            p.step(MEND);
            due("of " + s[0] + " by " + s[1], p.at(1, 0, 0, 0), 900);
        }
    }

    private static void mendWithoutAnyNearThatIsNotDeadStays() {
        dues.about("MEND: without any it stays, all being DEAD");
        PicturePath p = Pictures.sloping(4, 4, 2);
        for (int y = 0; y < 4; y++) {
            for (int x = 0; x < 4; x++) {
                p.dead(x, y, true);
            }
        }
        p.step(MEND);
        for (int y = 0; y < 4; y++) {
            for (int x = 0; x < 4; x++) {
                due("at(1, " + x + ", " + y + ")", p.at(1, x, y, 0), 2 + 10 * x + 100 * y);
            }
        }
    }

    private static void mendAtSidesAndCorners() {
        dues.about("NEAR: that there are");
        int[][] rows = {
            {0, 0, (20 + 200) / 2}, {1, 0, (30 + 210) / 2}, {3, 0, (10 + 230) / 2}, {4, 0, (20 + 240) / 2},
            {2, 0, (0 + 40 + 220) / 3}, {0, 1, (120 + 300) / 2}, {0, 2, (220 + 0 + 400) / 3}, {4, 2, (220 + 40 + 440) / 3},
            {0, 4, (420 + 200) / 2}, {4, 4, (420 + 240) / 2}, {3, 3, (310 + 130) / 2}, {2, 4, (400 + 440 + 220) / 3},
            {2, 2, (200 + 240 + 20 + 420) / 4}, {4, 3, (320 + 140) / 2}, {1, 2, (230 + 10 + 410) / 3},
        };
        for (int[] r : rows) {
            PicturePath p = Pictures.sloping(5, 5, 0);
            p.cell(r[0], r[1], 1023);
            p.dead(r[0], r[1], true);
            p.step(MEND);
            due("at(1, " + r[0] + ", " + r[1] + ")", p.at(1, r[0], r[1], 0), r[2]);
        }
    }

    private static void mendDoesNotReachAcrossASide() {
        dues.about("NEAR: that there are, with the greatest sides");
        PicturePath p = Pictures.sized(16, 16);
        p.step(MEND);
        int[][] ends = {{0, 5}, {1, 5}, {14, 5}, {15, 5}, {5, 0}, {5, 1}, {5, 14}, {5, 15}};
        for (int[] c : ends) {
            p.cell(c[0], c[1], 7);
            p.dead(c[0], c[1], true);
        }
        // what lies beyond a side in the row above or below, if rows were laid end to end
        int[][] beyond = {{14, 4}, {15, 4}, {0, 6}, {1, 6}};
        for (int[] c : beyond) {
            p.cell(c[0], c[1], 900);
        }
        for (int[] c : ends) {
            due("at(1, " + c[0] + ", " + c[1] + ")", p.at(1, c[0], c[1], 0), 0);
        }
    }

    private static void mendLooksAtThePictureAhead() {
        dues.about("MEND: of those of its NEAR, not as mended");
        PicturePath p = Pictures.of(new int[] {100, 0, 200, 0, 300, 0, 900});
        p.dead(2, 0, true);
        p.step(MEND);
        due("of the DEAD one", p.at(1, 2, 0, 0), 200);
        p.dead(4, 0, true);
        due("of the one with a DEAD one on its right", p.at(1, 2, 0, 0), 100);
        due("of the one with a DEAD one on its left", p.at(1, 4, 0, 0), 900);
        due("of both and the rest", p.part(0, 0, 7, 1, 0), 100 + 100 + 900 + 900);
    }

    private static void mendTwice() {
        dues.about("MEND: DEAD is said of the CELL, behind a MEND too");
        PicturePath p = Pictures.of(new int[] {7, 0, 9, 0, 80});
        p.dead(0, 0, true);
        p.dead(2, 0, true);
        p.step(MEND);
        p.step(MEND);
        due("next to a mended one", p.at(2, 0, 0, 0), 7);
        due("next to one that is not DEAD", p.at(2, 2, 0, 0), 80);
        p.dead(2, 0, false);
        due("next to one that is DEAD no more", p.at(2, 0, 0, 0), 9);
    }

    private static void mendOfNumbersBehindSteps() {
        dues.about("MEND behind other STEPS");
        PicturePath p = Pictures.of(new int[] {500, 0, 1, 0, 1023});
        p.dead(2, 0, true);
        p.gain(8000, 8000, 8000);
        p.black(5);
        p.step(MEND);
        due("of 3995 and 4090", p.at(3, 2, 0, 0), (3995 + 4090) / 2);
    }

    private static void middleOfAnyOrder() {
        dues.about("MIDDLE: the third of five, in order");
        int[] numbers = {10, 20, 30, 40, 50};
        int[][] places = {{2, 2}, {0, 2}, {4, 2}, {2, 0}, {2, 4}};
        for (int order = 0; order < 3125; order++) {
            int[] which = {order % 5, order / 5 % 5, order / 25 % 5, order / 125 % 5, order / 625};
            PicturePath p = Pictures.sized(5, 5);
            int[] five = new int[5];
            for (int i = 0; i < 5; i++) {
                five[i] = numbers[which[i]];
                p.cell(places[i][0], places[i][1], five[i]);
            }
            p.step(MIDDLE);
            java.util.Arrays.sort(five);
            due("order " + order, p.at(1, 2, 2, 0), five[2]);
        }
    }

    private static void middleOfAlikeOnes() {
        dues.about("MIDDLE of least and greatest numbers");
        PicturePath p = Pictures.sized(5, 5);
        p.gain(8000, 8000, 8000);
        p.step(MIDDLE);
        int[][] places = {{0, 2}, {4, 2}, {2, 0}, {2, 4}, {2, 2}};
        for (int i = 0; i < 5; i++) {
            due("of " + i + " that are 4095", p.at(2, 2, 2, 0), i >= 3 ? 4095 : 0);
            p.cell(places[i][0], places[i][1], 1023);
        }
        due("of five that are 4095", p.at(2, 2, 2, 0), 4095);
    }

    private static void middleAtSidesAndCorners() {
        dues.about("MIDDLE: its own instead of what is none");
        // corner: three times its own; side: twice its own and three others
        int[][] numbers = {
            {500, 1, 100, 1, 500},
            {1, 1, 1, 1, 1},
            {300, 1, 200, 1, 900},
            {1, 1, 1, 1, 1},
            {500, 1, 700, 1, 500},
        };
        PicturePath p = Pictures.of(numbers);
        p.step(MIDDLE);
        due("corner (0, 0)", p.at(1, 0, 0, 0), 500);
        due("corner (4, 0)", p.at(1, 4, 0, 0), 500);
        due("corner (0, 4)", p.at(1, 0, 4, 0), 500);
        due("corner (4, 4)", p.at(1, 4, 4, 0), 500);
        due("up: 100 100 200 500 500", p.at(1, 2, 0, 0), 200);
        due("left: 200 300 300 500 500", p.at(1, 0, 2, 0), 300);
        due("right: 200 500 500 900 900", p.at(1, 4, 2, 0), 500);
        due("down: 200 500 500 700 700", p.at(1, 2, 4, 0), 500);
        due("inside: 100 200 300 700 900", p.at(1, 2, 2, 0), 300);
        due("one from a corner: its own thrice", p.at(1, 1, 1, 0), 1);
        PicturePath row = Pictures.of(new int[] {9, 0, 5, 0, 7, 0, 0});
        row.step(MIDDLE);
        due("a row: 5 5 5 7 9", row.at(1, 2, 0, 0), 5);
        due("a row's end: 9 thrice", row.at(1, 0, 0, 0), 9);
        PicturePath column = Pictures.of(new int[][] {{9}, {0}, {5}, {0}, {7}});
        column.step(MIDDLE);
        due("a column: 5 5 5 7 9", column.at(1, 0, 2, 0), 5);
        due("a column's end: 7 thrice", column.at(1, 0, 4, 0), 7);
    }

    private static void middleOfNoneAround() {
        dues.about("MIDDLE: its own, without any of the four");
        int[][] sizes = {{1, 1}, {1, 2}, {2, 1}, {2, 2}};
        for (int[] s : sizes) {
            PicturePath p = Pictures.sloping(s[0], s[1], 30);
            p.step(MIDDLE);
            due("of " + s[0] + " by " + s[1], p.at(1, s[0] - 1, s[1] - 1, 0), 30 + 10 * (s[0] - 1) + 100 * (s[1] - 1));
        }
    }

    private static void middleDoesNotReachAcrossASide() {
        dues.about("MIDDLE: what is none, with the greatest sides");
        PicturePath p = Pictures.flat(16, 16, 10);
        p.step(MIDDLE);
        int[][] ends = {{0, 5}, {1, 5}, {14, 5}, {15, 5}, {5, 0}, {5, 1}, {5, 14}, {5, 15}};
        for (int[] c : ends) {
            // its own twice and two alike: what it has twice is the third
            p.cell(c[0], c[1], 40);
            int[][] four = {{c[0] - 2, c[1]}, {c[0] + 2, c[1]}, {c[0], c[1] - 2}, {c[0], c[1] + 2}};
            int[] there = {90, 10, 10};
            int i = 0;
            for (int[] f : four) {
                if (p.cell(f[0], f[1], there[Math.min(i, 2)]) >= 0) {
                    i++;
                }
            }
            due("at(1, " + c[0] + ", " + c[1] + "): 10 10 40 40 90", p.at(1, c[0], c[1], 0), 40);
        }
    }

    private static void middleLooksAtThePictureAhead() {
        dues.about("MIDDLE: of those of four, not as made anew");
        PicturePath p = Pictures.of(new int[] {50, 0, 90, 0, 10, 0, 70, 0, 30});
        p.step(MIDDLE);
        int[] want = {50, 90, 10, 70, 30};
        for (int i = 0; i < 5; i++) {
            due("at(1, " + 2 * i + ", 0)", p.at(1, 2 * i, 0, 0), want[i]);
        }
        PicturePath twice = Pictures.of(new int[][] {{50, 0, 60}, {0, 0, 0}, {90, 0, 10}, {0, 0, 0}, {70, 0, 20}});
        twice.step(MIDDLE);
        due("10 90 90 50 70", twice.at(1, 0, 2, 0), 70);
        due("50 thrice", twice.at(1, 0, 0, 0), 50);
        due("sum", twice.part(0, 0, 3, 5, 0), 50 + 60 + 70 + 20 + 70 + 20);
    }

    private static void coloursOfOwn() {
        dues.about("COLOURS: of its own COLOUR its own one");
        PicturePath p = Pictures.sloping(4, 4, 3);
        p.step(COLOURS);
        for (int y = 0; y < 4; y++) {
            for (int x = 0; x < 4; x++) {
                due("at(1, " + x + ", " + y + ")", p.at(1, x, y, x % 2 + y % 2), 3 + 10 * x + 100 * y);
            }
        }
    }

    private static void coloursOfAnother() {
        dues.about("COLOURS: of another COLOUR the sum of those with it among the eight places around by how many");
        // the place in the middle has each colour in turn; only one of the eight has a number
        for (int cy = 2; cy <= 3; cy++) {
            for (int cx = 2; cx <= 3; cx++) {
                for (int y = 0; y < 6; y++) {
                    for (int x = 0; x < 6; x++) {
                        oneAmongOthers(cx, cy, x, y);
                    }
                }
            }
        }
    }

    private static void oneAmongOthers(int cx, int cy, int x, int y) {
        PicturePath p = Pictures.sized(6, 6);
        p.cell(x, y, 400);
        p.step(COLOURS);
        boolean around = Math.abs(x - cx) <= 1 && Math.abs(y - cy) <= 1;
        int own = cx % 2 + cy % 2;
        for (int plane = 0; plane < 3; plane++) {
            boolean withIt = x % 2 + y % 2 == plane;
            int want = 0;
            if (plane == own) {
                want = x == cx && y == cy ? 400 : 0;
            } else if (around && withIt) {
                // beside a place of colour 1 there are two of each other colour, else four
                want = own == 1 ? 200 : 100;
            }
            due("400 at (" + x + ", " + y + "): at(1, " + cx + ", " + cy + ", " + plane + ")", p.at(1, cx, cy, plane), want);
        }
    }

    private static void coloursAtSidesAndCorners() {
        dues.about("COLOURS: by how many there are, at sides and corners");
        int[][] rows = {
            {0, 0, 1, (10 + 100) / 2}, {0, 0, 2, 110}, {1, 0, 0, (0 + 20) / 2}, {1, 0, 2, 110}, {2, 0, 2, (110 + 130) / 2},
            {2, 0, 1, (10 + 30 + 120) / 3}, {3, 0, 0, 20}, {3, 0, 2, 130}, {0, 1, 0, (0 + 200) / 2}, {0, 1, 2, 110},
            {3, 1, 0, (20 + 220) / 2}, {3, 1, 1, (30 + 120 + 230) / 3}, {0, 2, 1, (200 - 100 + 210 + 300) / 3},
            {0, 2, 2, (110 + 310) / 2}, {0, 3, 0, 200}, {0, 3, 2, 310}, {3, 3, 0, 220}, {3, 3, 1, (320 + 230) / 2},
            {2, 3, 0, 220}, {2, 3, 2, (310 + 330) / 2}, {1, 3, 0, (200 + 220) / 2}, {1, 3, 1, (300 + 320 + 210) / 3},
        };
        PicturePath p = Pictures.sloping(4, 4, 0);
        p.step(COLOURS);
        for (int[] r : rows) {
            due("at(1, " + r[0] + ", " + r[1] + ", " + r[2] + ")", p.at(1, r[0], r[1], r[2]), r[3]);
        }
    }

    private static void coloursWithoutAny() {
        dues.about("COLOURS: 0 without any");
        PicturePath one = Pictures.flat(1, 1, 900);
        one.step(COLOURS);
        due("one CELL, 0", one.at(1, 0, 0, 0), 900);
        due("one CELL, 1", one.at(1, 0, 0, 1), 0);
        due("one CELL, 2", one.at(1, 0, 0, 2), 0);
        PicturePath row = Pictures.flat(16, 1, 900);
        row.step(COLOURS);
        PicturePath column = Pictures.flat(1, 16, 900);
        column.step(COLOURS);
        for (int i = 0; i < 16; i++) {
            for (int plane = 0; plane < 3; plane++) {
                due("a row (" + i + ") of " + plane, row.at(1, i, 0, plane), plane == 2 ? 0 : 900);
                due("a column (" + i + ") of " + plane, column.at(1, 0, i, plane), plane == 2 ? 0 : 900);
            }
        }
    }

    private static void coloursAreRoundedDown() {
        dues.about("COLOURS: rounded down");
        PicturePath p = Pictures.sized(3, 3);
        p.step(COLOURS);
        int[][] corners = {{0, 0}, {2, 0}, {0, 2}, {2, 2}};
        int sum = 0;
        for (int i = 0; i < 4; i++) {
            p.cell(corners[i][0], corners[i][1], 1);
            sum++;
            due("four with the sum " + sum, p.at(1, 1, 1, 0), sum / 4);
        }
        p.cell(2, 0, 2);
        due("two with the sum 3", p.at(1, 1, 0, 0), 1);
        p.cell(1, 0, 1);
        p.cell(0, 1, 1);
        p.cell(2, 1, 0);
        due("three with the sum 2", p.at(1, 1, 2, 1), 0);
        p.cell(1, 2, 4);
        due("two with the sum 5", p.at(1, 0, 2, 1), 2);
        p.cell(0, 1, 1023);
        p.cell(1, 2, 1022);
        due("two with the sum 2045", p.at(1, 0, 2, 1), 1022);
    }

    private static void coloursDoNotReachAcrossASide() {
        dues.about("COLOURS: the eight places around, with the greatest sides");
        PicturePath p = Pictures.flat(16, 16, 10);
        p.step(COLOURS);
        p.cell(15, 4, 1000);
        p.cell(15, 5, 1000);
        p.cell(15, 6, 1000);
        for (int plane = 0; plane < 3; plane++) {
            due("at(1, 0, 5, " + plane + ")", p.at(1, 0, 5, plane), 10);
            due("at(1, 0, 6, " + plane + ")", p.at(1, 0, 6, plane), 10);
            due("at(1, 0, 7, " + plane + ")", p.at(1, 0, 7, plane), 10);
        }
        for (int x = 0; x < 16; x++) {
            p.cell(x, 15, 1000);
        }
        for (int plane = 0; plane < 3; plane++) {
            due("row 0 of " + plane, p.part(0, 0, 16, 1, plane), 160);
        }
        due("at(1, 15, 15, 0)", p.at(1, 15, 15, 0), 10);
        due("at(1, 15, 15, 1)", p.at(1, 15, 15, 1), (1000 + 10) / 2);
        due("at(1, 14, 15, 1)", p.at(1, 14, 15, 1), 1000);
    }

    private static void deadCellsAreLikeOthersBesideMend() {
        dues.about("DEAD is looked at by MEND alone");
        PicturePath p = Pictures.sloping(5, 5, 9);
        p.gain(2000, 1500, 1000);
        p.black(3);
        p.step(MIDDLE);
        p.step(COLOURS);
        p.matrix();
        p.curve();
        p.step(HALF);
        int[] sums = new int[3];
        for (int plane = 0; plane < 3; plane++) {
            sums[plane] = p.part(0, 0, 2, 2, plane);
        }
        for (int y = 0; y < 5; y++) {
            for (int x = 0; x < 5; x++) {
                p.dead(x, y, true);
                for (int plane = 0; plane < 3; plane++) {
                    due("(" + x + ", " + y + ") DEAD, plane " + plane, p.part(0, 0, 2, 2, plane), sums[plane]);
                }
            }
        }
    }

    private static void matrixAtFirstChangesNothing() {
        dues.about("MATRIX of 1000, 0, 0, 0, 1000, 0, 0, 0, 1000");
        PicturePath p = three(4095, 3000, 5);
        p.matrix();
        due("p", p.at(3, 0, 0, 0), 4095);
        due("q", p.at(3, 0, 0, 1), 3000);
        due("r", p.at(3, 0, 0, 2), 5);
    }

    private static void matrixEntriesEach() {
        dues.about("MATRIX: m0 p and m1 q and m2 r, likewise by m3 to m5, m6 to m8");
        int[] numbers = {1000, 2000, 4000};
        for (int i = 0; i < 9; i++) {
            PicturePath p = three(numbers[0], numbers[1], numbers[2]);
            for (int j = 0; j < 9; j++) {
                p.entry(j, j == i ? 1000 : 0);
            }
            p.matrix();
            for (int plane = 0; plane < 3; plane++) {
                due("m" + i + ", plane " + plane, p.at(3, 0, 0, plane), i / 3 == plane ? numbers[i % 3] : 0);
            }
        }
    }

    private static void matrixIsRoundedDownOnce() {
        dues.about("MATRIX: by 1000, rounded down, of the sum");
        PicturePath p = three(5, 5, 5);
        entries(p, 100, 50, 50, 100, 50, 49, 399, 400, 400);
        p.matrix();
        due("500 and 250 and 250", p.at(3, 0, 0, 0), 1);
        due("500 and 250 and 245", p.at(3, 0, 0, 1), 0);
        due("1995 and 2000 and 2000", p.at(3, 0, 0, 2), 5);
        p.undo();
        entries(p, 1000, -1, 0, 1000, -200, 0, 1000, -201, 1);
        p.matrix();
        due("5000 less 5", p.at(3, 0, 0, 0), 4);
        due("5000 less 1000", p.at(3, 0, 0, 1), 4);
        due("5000 less 1005 and 5", p.at(3, 0, 0, 2), 4);
        p.undo();
        entries(p, 2000, -1999, 0, 2000, -1800, 0, 2000, -1801, 0);
        p.matrix();
        due("10000 less 9995", p.at(3, 0, 0, 0), 0);
        due("10000 less 9000", p.at(3, 0, 0, 1), 1);
        due("10000 less 9005", p.at(3, 0, 0, 2), 0);
    }

    private static void matrixJustBelowAWhole() {
        dues.about("MATRIX: rounded down, a thousandth below a whole");
        int[][] rows = {{1, 999, 0}, {1, 1000, 1}, {1, 1001, 1}, {1, 1999, 1}, {1, 3999, 3}, {3, 333, 0}, {3, 667, 2}, {27, 37, 0},
            {37, 27, 0}, {40, 25, 1}, {1023, 3999, 4090}, {1021, 3999, 4082}, {0, 4000, 0}};
        for (int[] r : rows) {
            PicturePath p = Pictures.flat(1, 1, r[0]);
            p.step(COLOURS);
            entries(p, r[1], 0, 0, r[1], 4000, 4000, r[1], -4000, -4000);
            p.matrix();
            for (int plane = 0; plane < 3; plane++) {
                due(r[0] + " times " + r[1] + ", plane " + plane, p.at(2, 0, 0, plane), r[2]);
            }
        }
    }

    private static void matrixIsAtLeast0() {
        dues.about("MATRIX: brought to 0 and more");
        PicturePath p = three(4095, 4095, 4095);
        entries(p, -4000, -4000, -4000, -1, 0, 0, 1000, -1000, 0);
        p.matrix();
        due("all less", p.at(3, 0, 0, 0), 0);
        due("a little less", p.at(3, 0, 0, 1), 0);
        due("none left", p.at(3, 0, 0, 2), 0);
        p.undo();
        entries(p, 0, 0, 0, 1, -1, 0, 1, 0, 0);
        p.matrix();
        due("nothing", p.at(3, 0, 0, 0), 0);
        due("4095 less 4095", p.at(3, 0, 0, 1), 0);
        due("4095 by 1000", p.at(3, 0, 0, 2), 4);
    }

    private static void matrixIsAtMost4095() {
        dues.about("MATRIX: brought to 4095 at most");
        PicturePath p = three(4095, 4095, 4095);
        entries(p, 4000, 4000, 4000, 1000, 1, 0, 4000, -3000, 0);
        p.matrix();
        due("12 times", p.at(3, 0, 0, 0), 4095);
        due("a little more", p.at(3, 0, 0, 1), 4095);
        due("4 times less 3 times", p.at(3, 0, 0, 2), 4095);
        p.undo();
        entries(p, 4000, -3001, 0, 4000, 4000, -4000, 999, 0, 0);
        p.matrix();
        due("a little less", p.at(3, 0, 0, 0), 4090);
        due("4 and 4 less 4", p.at(3, 0, 0, 1), 4095);
        due("999 of it", p.at(3, 0, 0, 2), 4090);
    }

    private static void matrixOfNumbersBeyondAtFirst() {
        dues.about("MATRIX: what is beyond in between is brought back behind the STEP alone");
        PicturePath p = three(4000, 4000, 4000);
        entries(p, 4000, 4000, -4000, -4000, 4000, 500, 4000, -4000, -1);
        p.matrix();
        due("16000 and 16000 less 16000", p.at(3, 0, 0, 0), 4095);
        due("less 16000 and 16000 and 2000", p.at(3, 0, 0, 1), 2000);
        due("16000 less 16000 less 4", p.at(3, 0, 0, 2), 0);
    }

    /** The place (0, 0) of stage 3 has this number, 0 to 4095: a gain brings it to fours, a matrix adds the rest. */
    private static PicturePath bent(int number) {
        PicturePath p = Pictures.sized(2, 2);
        p.gain(4000, 1000, 1000);
        p.step(COLOURS);
        p.cell(0, 0, number / 4);
        p.cell(1, 0, number % 4);
        p.cell(0, 1, number % 4);
        p.entry(1, 1000);
        p.matrix();
        return p;
    }

    private static void curveAtEachPoint() {
        dues.about("CURVE t: t(i) at 256 i");
        int[] t = {3, 3, 9, 300, 301, 700, 701, 702, 1500, 1500, 2000, 2600, 2601, 3500, 3999, 4001, 4095};
        for (int i = 0; i < 16; i++) {
            PicturePath p = bent(256 * i);
            for (int j = 0; j < 17; j++) {
                p.point(j, t[j]);
            }
            p.curve();
            due("ahead of it", p.at(3, 0, 0, 0), 256 * i);
            due("at " + 256 * i, p.at(4, 0, 0, 0), t[i]);
        }
    }

    private static void curveBetweenPoints() {
        dues.about("CURVE t: rounded down, (t(i + 1) less t(i)) times way by 256");
        int[] t = {3, 3, 9, 300, 301, 700, 701, 702, 1500, 1500, 2000, 2600, 2601, 3500, 3999, 4001, 4095};
        int[] ways = {1, 127, 128, 129, 254, 255};
        for (int i = 0; i < 16; i++) {
            for (int way : ways) {
                PicturePath p = bent(256 * i + way);
                for (int j = 0; j < 17; j++) {
                    p.point(j, t[j]);
                }
                p.curve();
                due("at " + (256 * i + way), p.at(4, 0, 0, 0), t[i] + Math.floorDiv((t[i + 1] - t[i]) * way, 256));
            }
        }
    }

    private static void curveAtFirst() {
        dues.about("CURVE of the first numbers: t(16) is 4095, and counts as at 4096");
        int[] same = {0, 1, 255, 256, 257, 2047, 2048, 3839, 3840};
        for (int v : same) {
            PicturePath p = bent(v);
            p.curve();
            due("at " + v, p.at(4, 0, 0, 0), v);
        }
        int[] less = {3841, 3968, 4000, 4094, 4095};
        for (int v : less) {
            PicturePath p = bent(v);
            p.curve();
            due("at " + v, p.at(4, 0, 0, 0), v - 1);
        }
    }

    private static void curveOf4095() {
        dues.about("CURVE of 4095: i is 15, way 255");
        PicturePath p = bent(4095);
        p.point(15, 0);
        for (int i = 0; i < 15; i++) {
            p.point(i, 0);
        }
        p.curve();
        due("from 0 to 4095", p.at(4, 0, 0, 0), 4095 * 255 / 256);
        p.undo();
        p.point(15, 4095);
        p.curve();
        due("from 4095 to 4095", p.at(4, 0, 0, 0), 4095);
        p.undo();
        p.point(15, 0);
        p.point(16, 1);
        p.curve();
        due("from 0 to 1", p.at(4, 0, 0, 0), 0);
    }

    private static void curveIsSteep() {
        dues.about("CURVE: the steepest way");
        PicturePath p = bent(255);
        for (int i = 1; i < 17; i++) {
            p.point(i, 4095);
        }
        p.curve();
        due("of 255", p.at(4, 0, 0, 0), 4079);
        PicturePath q = bent(1);
        for (int i = 1; i < 17; i++) {
            q.point(i, 4095);
        }
        q.curve();
        due("of 1", q.at(4, 0, 0, 0), 15);
    }

    private static void halfIsOfFour() {
        dues.about("HALF: of places 2 x, 2 x and 1, 2 y, 2 y and 1");
        for (int y = 0; y < 6; y++) {
            for (int x = 0; x < 6; x++) {
                PicturePath p = Pictures.sized(6, 6);
                p.cell(x, y, 800);
                p.step(COLOURS);
                p.step(HALF);
                int colour = x % 2 + y % 2;
                int here = p.at(1, x, y, colour);
                due("own", here, 800);
                // nothing else has its own colour's number within these four but what colours filled in
                int sum = 0;
                for (int i = 0; i < 4; i++) {
                    sum += p.at(1, x / 2 * 2 + i % 2, y / 2 * 2 + i / 2, colour);
                }
                due("half of (" + x + ", " + y + ")", p.at(2, x / 2, y / 2, colour), sum / 4);
            }
        }
    }

    private static void halfIsRoundedDown() {
        dues.about("HALF: by 4, rounded down");
        for (int v = 0; v <= 8; v++) {
            PicturePath p = Pictures.sized(2, 2);
            p.cell(1, 0, v);
            p.step(COLOURS);
            p.step(HALF);
            // of colour 1: v, 0, and twice v by 2
            due("of " + v, p.at(2, 0, 0, 1), (v + v / 2 + v / 2) / 4);
            due("plane 0", p.at(2, 0, 0, 0), 0);
        }
    }

    private static void halfLeavesOutTheOdd() {
        dues.about("HALF: W by 2, H by 2 (rounded down)");
        for (int side = 2; side <= 16; side++) {
            PicturePath wide = Pictures.sized(side, 2);
            wide.step(COLOURS);
            wide.step(HALF);
            due("width of " + side, wide.stage(2, 0), side / 2);
            due("its height", wide.stage(2, 1), 1);
            due("its last place", wide.at(2, side / 2 - 1, 0, 0), 0);
            due("behind it", wide.at(2, side / 2, 0, 0), -102);
            PicturePath high = Pictures.sized(3, side);
            high.step(COLOURS);
            high.step(HALF);
            due("height of " + side, high.stage(2, 1), side / 2);
            due("its width", high.stage(2, 0), 1);
            due("its last place", high.at(2, 0, side / 2 - 1, 0), 0);
            due("behind it", high.at(2, 0, side / 2, 0), -102);
        }
        PicturePath odd = Pictures.sized(5, 5);
        odd.step(COLOURS);
        odd.step(HALF);
        odd.cell(4, 4, 1000);
        due("the last one of colour 0, filled in at (3, 3)", odd.at(2, 1, 1, 0), 250 / 4);
        due("of colour 1", odd.bound(1, 1), 0);
    }

    private static void halfOfGreatNumbers() {
        dues.about("HALF of 4095");
        PicturePath p = Pictures.flat(4, 4, 1023);
        p.gain(8000, 8000, 8000);
        p.step(COLOURS);
        p.step(HALF);
        p.step(HALF);
        for (int plane = 0; plane < 3; plane++) {
            due("once", p.at(3, 1, 1, plane), 4095);
            due("twice", p.at(4, 0, 0, plane), 4095);
        }
    }

    private static void halfOfEachPlane() {
        dues.about("HALF: each number, of each PLANE");
        PicturePath p = Pictures.of(new int[][] {{100, 200}, {200, 400}});
        p.step(COLOURS);
        p.step(HALF);
        due("plane 0", p.at(2, 0, 0, 0), 100);
        due("plane 1", p.at(2, 0, 0, 1), 200);
        due("plane 2", p.at(2, 0, 0, 2), 400);
    }

    private static void halfOfHalf() {
        dues.about("HALF: of places of the picture ahead, HALF too");
        PicturePath p = Pictures.sized(8, 8);
        p.step(COLOURS);
        p.step(HALF);
        p.step(HALF);
        for (int y = 0; y < 8; y++) {
            for (int x = 0; x < 8; x++) {
                p.cell(x, y, x < 4 == y < 4 ? 64 : 800);
            }
        }
        // the four inner places of each quarter of 4 by 4 lie away from the other quarters
        int quarter = (p.at(2, 0, 0, 0) + p.at(2, 1, 0, 0) + p.at(2, 0, 1, 0) + p.at(2, 1, 1, 0)) / 4;
        due("first quarter", p.at(3, 0, 0, 0), quarter);
        due("its first place", p.at(2, 0, 0, 0), 64);
        due("the second quarter's last place", p.at(2, 3, 0, 0), 800);
        due("the last quarter's last place", p.at(2, 3, 3, 2), 64);
    }

    private static void broughtTo4095BehindEachStep() {
        dues.about("Behind each STEP each number is brought to 4095 at most");
        PicturePath p = Pictures.flat(1, 1, 1023);
        p.gain(8000, 8000, 8000);
        p.gain(500, 500, 500);
        due("gain 8000, then 500", p.at(2, 0, 0, 0), 2047);
        p.undo();
        p.black(1000);
        due("gain 8000, then black 1000", p.at(2, 0, 0, 0), 3095);
        p.step(COLOURS);
        p.entry(0, 4000);
        p.matrix();
        p.entry(0, 500);
        p.matrix();
        due("matrix 4000", p.at(4, 0, 0, 0), 4095);
        due("matrix 4000, then 500", p.at(5, 0, 0, 0), 2047);
    }

    private static void broughtTo0BehindEachStep() {
        dues.about("Behind each STEP each number is brought to 0 at least");
        PicturePath p = Pictures.flat(1, 1, 10);
        p.black(1000);
        p.gain(8000, 8000, 8000);
        due("black, then gain", p.at(2, 0, 0, 0), 0);
        p.size(1, 1);
        p.cell(0, 0, 1000);
        p.step(COLOURS);
        p.entry(0, -1000);
        p.matrix();
        p.matrix();
        due("matrix -1000", p.at(2, 0, 0, 0), 0);
        due("matrix -1000 twice", p.at(3, 0, 0, 0), 0);
        p.curve();
        due("then a curve", p.at(4, 0, 0, 0), 0);
    }
}
