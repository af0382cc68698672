/** Promises 9 best, 10 between, 11 shape, 12 ways, 13 sums, 14 served, 15 line. */
public final class WaysTest {
    private static final int[][] ROWS = {{3, 0, 2, 5}, {1, 4, 4, 0}, {6, 2, 0, 1}};
    private static final Check check = new Check();

    public static void main(String[] args) {
        bestWays();
        waysBetween();
        shapes();
        manyWays();
        productSums();
        queues();
        lines();
        check.end();
    }

    private static void bestWays() {
        GrowingCorners x = Fill.box(ROWS);
        int[][] want = {{3, 3, 5, 10}, {4, 8, 12, 12}, {10, 12, 12, 13}};
        for (int i = 0; i < 3; i++) {
            for (int j = 0; j < 4; j++) {
                check.due("best(" + i + ", " + j + ")", x.best(i, j), want[i][j]);
            }
        }
        check.due("best(3, 0)", x.best(3, 0), GrowingCorners.BAD);
        check.due("best(0, 4)", x.best(0, 4), GrowingCorners.BAD);
        check.due("best(-1, 0)", x.best(-1, 0), GrowingCorners.BAD);
        check.due("best(0, -1)", x.best(0, -1), GrowingCorners.BAD);
        check.due("best(max, min)", x.best(Integer.MAX_VALUE, Integer.MIN_VALUE), GrowingCorners.BAD);
        check.due("best of the greatest box", full(6, 6).best(5, 5), 220);
    }

    private static void waysBetween() {
        GrowingCorners x = Fill.box(ROWS);
        check.due("between(0, 0, 2, 3)", x.between(0, 0, 2, 3), 13);
        check.due("between(0, 1, 2, 3)", x.between(0, 1, 2, 3), 9);
        check.due("between(1, 0, 2, 1)", x.between(1, 0, 2, 1), 9);
        check.due("between(1, 1, 1, 3)", x.between(1, 1, 1, 3), 8);
        check.due("between(0, 2, 2, 2)", x.between(0, 2, 2, 2), 6);
        check.due("between(2, 0, 2, 0)", x.between(2, 0, 2, 0), 6);
        check.due("between(1, 1, 0, 3)", x.between(1, 1, 0, 3), GrowingCorners.NONE);
        check.due("between(1, 1, 2, 0)", x.between(1, 1, 2, 0), GrowingCorners.NONE);
        check.due("between(2, 3, 0, 0)", x.between(2, 3, 0, 0), GrowingCorners.NONE);
        int[][] wrong = {{-1, 0, 1, 1}, {0, -1, 1, 1}, {0, 0, 3, 1}, {0, 0, 1, 4}, {3, 0, 0, 0}, {0, 4, 0, 0},
            {1, 1, -1, 0}, {1, 1, 0, -1}};
        for (int[] w : wrong) {
            check.due("between(" + w[0] + ", " + w[1] + ", " + w[2] + ", " + w[3] + ")",
                    x.between(w[0], w[1], w[2], w[3]), GrowingCorners.BAD);
        }
        check.due("best after between", x.best(2, 3), 13);
    }

    private static void shapes() {
        GrowingCorners x = Fill.box(new int[][] {{1, 2}, {3, 4}});
        int[][][] want = {{{0, 0}, {0, 0}, {0, 0}}, {{0, 0}, {1, 0}, {3, 0}}, {{0, 0}, {4, 0}, {8, 2}}};
        for (int i = 0; i <= 2; i++) {
            for (int j = 0; j <= 2; j++) {
                for (int k = 0; k < 6; k++) {
                    check.due("shape(" + i + ", " + j + ", " + k + ")", x.shape(i, j, k), k < 2 ? want[i][j][k] : 0);
                }
            }
        }
        int[][] wrong = {{3, 0, 0}, {0, 3, 0}, {-1, 0, 0}, {0, -1, 0}, {0, 0, -1}, {0, 0, 6},
            {Integer.MAX_VALUE, 0, 0}, {0, Integer.MIN_VALUE, 0}, {2, 2, Integer.MAX_VALUE}};
        for (int[] w : wrong) {
            check.due("shape(" + w[0] + ", " + w[1] + ", " + w[2] + ")", x.shape(w[0], w[1], w[2]),
                    GrowingCorners.BAD);
        }
        // A box that has become smaller must not see the shapes of the greater one.
        x.box(6, 6);
        x.weight(0, 0, 20);
        check.due("shape(6, 6, 0)", x.shape(6, 6, 0), 20);
        x.box(2, 3);
        check.due("shape(2, 3, 0)", x.shape(2, 3, 0), 0);
        check.due("shape(3, 3, 0)", x.shape(3, 3, 0), GrowingCorners.BAD);
    }

    private static void manyWays() {
        // In a box of equal weights k ways that do not meet hold all of (m + n - 1) + (m + n - 3) + .. places.
        GrowingCorners x = full(6, 6);
        int together = 0;
        for (int k = 1; k <= 6; k++) {
            together += 20 * (11 - 2 * (k - 1));
            check.due("ways(" + k + ")", x.ways(k), together);
            check.due("shape(6, 6, " + (k - 1) + ")", x.shape(6, 6, k - 1), 20 * (11 - 2 * (k - 1)));
        }
        GrowingCorners y = Fill.box(new int[][] {{1, 2}, {3, 4}});
        check.due("ways(1)", y.ways(1), 8);
        check.due("ways(2)", y.ways(2), 10);
        check.due("ways(6)", y.ways(6), 10);
        check.due("ways(0)", y.ways(0), GrowingCorners.BAD);
        check.due("ways(7)", y.ways(7), GrowingCorners.BAD);
        check.due("ways(min)", y.ways(Integer.MIN_VALUE), GrowingCorners.BAD);
    }

    private static void productSums() {
        GrowingCorners x = Fill.box(new int[][] {{2, 3, 1}, {5, 1, 4}});
        long[][] want = {{2, 6, 6}, {10, 16, 88}};
        for (int i = 0; i < 2; i++) {
            for (int j = 0; j < 3; j++) {
                check.due("sums(" + i + ", " + j + ")", x.sums(i, j), want[i][j]);
            }
        }
        check.due("sums(2, 0)", x.sums(2, 0), GrowingCorners.BAD);
        check.due("sums(0, 3)", x.sums(0, 3), GrowingCorners.BAD);
        check.due("sums(-1, 0)", x.sums(-1, 0), GrowingCorners.BAD);
        check.due("sums(0, -1)", x.sums(0, -1), GrowingCorners.BAD);
        long greatest = 252;
        for (int n = 0; n < 11; n++) {
            greatest *= 20;
        }
        check.due("sums of the greatest box", full(6, 6).sums(5, 5), greatest);
    }

    private static void queues() {
        GrowingCorners x = Fill.box(ROWS);
        int[][] at = {{0, 2, 0}, {0, 3, 2}, {0, 4, 2}, {0, 5, 3}, {0, 9, 3}, {0, 10, 4}, {1, 3, 0}, {1, 4, 1},
            {1, 11, 2}, {1, 12, 4}, {2, 9, 0}, {2, 10, 1}, {2, 12, 3}, {2, 13, 4}, {2, Integer.MAX_VALUE, 4}};
        for (int[] a : at) {
            check.due("served(" + a[0] + ", " + a[1] + ")", x.served(a[0], a[1]), a[2]);
        }
        check.due("served(0, 0) of no weights", new GrowingCorners().served(0, 0), 3);
        check.due("served(3, 0)", x.served(3, 0), GrowingCorners.BAD);
        check.due("served(-1, 0)", x.served(-1, 0), GrowingCorners.BAD);
        check.due("served(0, -1)", x.served(0, -1), GrowingCorners.BAD);
        check.due("served(0, min)", x.served(0, Integer.MIN_VALUE), GrowingCorners.BAD);
    }

    private static void lines() {
        line(Fill.box(ROWS), 0, 1, 2, 3, 13, 23);
        line(Fill.box(new int[][] {{0, 5, 0}, {5, 0, 0}}), 0, 1, 2, 12);
        line(Fill.box(new int[][] {{0, 5, 0}, {4, 0, 0}}), 0, 10, 11, 12);
        line(Fill.box(new int[][] {{0}, {5}, {1}}), 0, 10, 20);
        line(Fill.box(new int[][] {{7}}), 0);
        line(full(6, 6), 0, 1, 2, 3, 4, 5, 15, 25, 35, 45, 55);
    }

    private static void line(GrowingCorners x, int... places) {
        for (int s = 0; s < places.length; s++) {
            check.due("line(" + s + ")", x.line(s), places[s]);
        }
        check.due("line behind its end", x.line(places.length), GrowingCorners.BAD);
        check.due("line(-1)", x.line(-1), GrowingCorners.BAD);
        check.due("line(max)", x.line(Integer.MAX_VALUE), GrowingCorners.BAD);
        check.due("line(min)", x.line(Integer.MIN_VALUE), GrowingCorners.BAD);
    }

    private static GrowingCorners full(int m, int n) {
        int[][] rows = new int[m][n];
        for (int[] row : rows) {
            java.util.Arrays.fill(row, 20);
        }
        return Fill.box(rows);
    }
}
