import java.util.Arrays;

/** The document's sentences on ways, shapes, sums, queues and the line (promises 9 to 15) that name an edge. */
public final class WaysEdgesTest {
    private static final int BAD = GrowingCorners.BAD;
    private static final int NONE = GrowingCorners.NONE;
    private static final int LEAST = Integer.MIN_VALUE;
    private static final int MOST = Integer.MAX_VALUE;
    private static final int[][] NO_PLACES = {{2, 0}, {0, 3}, {2, 3}, {-1, 0}, {0, -1}, {-1, -1}, {1, 6}, {6, 1},
        {LEAST, 0}, {0, LEAST}, {MOST, 0}, {0, MOST}, {MOST, MOST}};
    private static final Check check = new Check();

    public static void main(String[] args) {
        bothEndsToo();
        onlyToTheNextRowOrColumn();
        noSuchPlaceForBest();
        noWay();
        noPlaceForBetween();
        placesAheadOfNoWay();
        shapesAtEachCorner();
        cornersWithZero();
        sixParts();
        partsBeyondTheLesserSide();
        theGreaterAndTheLesser();
        firstPartsTogether();
        noPlaceForSums();
        sumsWithZeros();
        sumsBelowTwoToThe63();
        servedByATime();
        servedAtNoDesk();
        timeBelowZero();
        lineBeginsAndEnds();
        lineOfLikeOnes();
        lineWhereButOneIsThere();
        lineBehindItsEnd();
        boxesThatBecameSmaller();
        check.end();
    }

    private static GrowingCorners small() {
        return Fill.box(new int[][] {{1, 2, 3}, {4, 5, 6}});
    }

    private static GrowingCorners alike(int m, int n, int w) {
        int[][] rows = new int[m][n];
        for (int[] row : rows) {
            Arrays.fill(row, w);
        }
        return Fill.box(rows);
    }

    private static void bothEndsToo() {
        check.says("it WEIGHS all WEIGHTS on it, both ends too");
        GrowingCorners one = Fill.box(new int[][] {{20}});
        check.due("best(0, 0)", one.best(0, 0), 20);
        check.due("between(0, 0, 0, 0)", one.between(0, 0, 0, 0), 20);
        GrowingCorners x = small();
        check.due("between(1, 2, 1, 2)", x.between(1, 2, 1, 2), 6);
        check.due("between(1, 1, 1, 2)", x.between(1, 1, 1, 2), 11);
        check.due("between(0, 2, 1, 2)", x.between(0, 2, 1, 2), 9);
        check.due("best(0, 0)", x.best(0, 0), 1);
        check.due("best(1, 2)", x.best(1, 2), 16);
    }

    private static void onlyToTheNextRowOrColumn() {
        check.says("goes by steps to the next row or to the next column");
        GrowingCorners x = Fill.box(new int[][] {{1, 20, 1}, {1, 1, 1}, {20, 1, 1}});
        check.due("best(2, 2): not both of 20", x.best(2, 2), 24);
        check.due("between(1, 1, 2, 2): none of 20", x.between(1, 1, 2, 2), 3);
        check.due("between(0, 0, 1, 1)", x.between(0, 0, 1, 1), 22);
        GrowingCorners row = Fill.box(new int[][] {{1, 2, 3, 4, 5, 6}});
        check.due("best(0, 5) of one row", row.best(0, 5), 21);
        row.turn();
        check.due("best(5, 0) of one column", row.best(5, 0), 21);
        check.due("best(5, 5) of the greatest", alike(6, 6, 20).best(5, 5), 220);
    }

    private static void noSuchPlaceForBest() {
        check.says("G. BAD: also no such place.");
        GrowingCorners x = small();
        for (int[] p : NO_PLACES) {
            check.due("best(" + p[0] + ", " + p[1] + ")", x.best(p[0], p[1]), BAD);
        }
        check.due("best(1, 2)", x.best(1, 2), 16);
    }

    private static void noWay() {
        check.says("NONE: there is no WAY");
        GrowingCorners x = small();
        for (int a = 0; a < 2; a++) {
            for (int b = 0; b < 3; b++) {
                for (int c = 0; c < 2; c++) {
                    for (int d = 0; d < 3; d++) {
                        long got = x.between(a, b, c, d);
                        boolean none = c < a || d < b;
                        check.holds("between(" + a + ", " + b + ", " + c + ", " + d + ") answered " + got,
                                none ? got == NONE : got >= 1);
                    }
                }
            }
        }
    }

    private static void noPlaceForBetween() {
        check.says("between: BAD");
        GrowingCorners x = small();
        for (int[] p : NO_PLACES) {
            check.due("between(0, 0, " + p[0] + ", " + p[1] + ")", x.between(0, 0, p[0], p[1]), BAD);
            check.due("between(" + p[0] + ", " + p[1] + ", 1, 2)", x.between(p[0], p[1], 1, 2), BAD);
        }
    }

    private static void placesAheadOfNoWay() {
        check.says("of several the first that a call names: BAD ahead of NONE");
        GrowingCorners x = small();
        check.due("between(2, 0, 0, 0)", x.between(2, 0, 0, 0), BAD);
        check.due("between(0, 3, 0, 0)", x.between(0, 3, 0, 0), BAD);
        check.due("between(1, 1, -1, 1)", x.between(1, 1, -1, 1), BAD);
        check.due("between(1, 1, 1, -1)", x.between(1, 1, 1, -1), BAD);
        check.due("between(1, 1, 0, 3)", x.between(1, 1, 0, 3), BAD);
    }

    private static void shapesAtEachCorner() {
        check.says("at each corner (i, j), 0 .. M, 0 .. N");
        GrowingCorners x = small();
        check.due("shape(2, 3, 0)", x.shape(2, 3, 0), 16);
        int[][] wrong = {{3, 0}, {0, 4}, {3, 4}, {-1, 0}, {0, -1}, {6, 6}, {7, 7}, {LEAST, 0}, {0, LEAST}, {MOST, 0},
            {0, MOST}};
        for (int[] corner : wrong) {
            check.due("shape(" + corner[0] + ", " + corner[1] + ", 0)", x.shape(corner[0], corner[1], 0), BAD);
        }
        GrowingCorners one = Fill.box(new int[][] {{20}});
        check.due("shape(1, 1, 0)", one.shape(1, 1, 0), 20);
        check.due("shape(2, 1, 0)", one.shape(2, 1, 0), BAD);
        check.due("shape(1, 2, 0)", one.shape(1, 2, 0), BAD);
        check.due("shape(6, 6, 5)", alike(6, 6, 20).shape(6, 6, 5), 20);
    }

    private static void cornersWithZero() {
        check.says("six parts: all 0 with i or j 0");
        GrowingCorners x = alike(6, 6, 20);
        for (int n = 0; n <= 6; n++) {
            for (int k = 0; k < 6; k++) {
                check.due("shape(0, " + n + ", " + k + ")", x.shape(0, n, k), 0);
                check.due("shape(" + n + ", 0, " + k + ")", x.shape(n, 0, k), 0);
            }
        }
    }

    private static void sixParts() {
        check.says("Part k (0 .. 5) of the SHAPE at a corner. BAD.");
        GrowingCorners x = small();
        for (int k : new int[] {LEAST, -1, 6, 7, MOST}) {
            check.due("shape(2, 3, " + k + ")", x.shape(2, 3, k), BAD);
            check.due("shape(0, 0, " + k + ")", x.shape(0, 0, k), BAD);
        }
        check.due("shape(2, 3, 5)", x.shape(2, 3, 5), 0);
    }

    private static void partsBeyondTheLesserSide() {
        check.says("part k the greater of both, and the lesser of both parts k - 1 less that of p more");
        for (int m = 1; m <= 6; m++) {
            for (int n = 1; n <= 6; n++) {
                GrowingCorners x = alike(m, n, 1);
                for (int k = 0; k < 6; k++) {
                    int part = k < Math.min(m, n) ? m + n - 1 - 2 * k : 0;
                    check.due("shape(" + m + ", " + n + ", " + k + ") of ones", x.shape(m, n, k), part);
                }
            }
        }
    }

    private static void theGreaterAndTheLesser() {
        check.says("part 0 is the greater of both of a, b, and w more");
        GrowingCorners x = Fill.box(new int[][] {{0, 7}, {4, 1}});
        check.due("shape(1, 2, 0)", x.shape(1, 2, 0), 7);
        check.due("shape(2, 1, 0)", x.shape(2, 1, 0), 4);
        check.due("shape(2, 2, 0)", x.shape(2, 2, 0), 8);
        check.due("shape(2, 2, 1): the lesser, 4, less 0", x.shape(2, 2, 1), 4);
        x.weight(0, 0, 3);
        check.due("shape(2, 2, 0)", x.shape(2, 2, 0), 11);
        check.due("shape(2, 2, 1): the lesser, 7, less 3", x.shape(2, 2, 1), 4);
        x.turn();
        check.due("shape(2, 2, 0) turned", x.shape(2, 2, 0), 11);
        check.due("shape(2, 2, 1) turned", x.shape(2, 2, 1), 4);
    }

    private static void firstPartsTogether() {
        check.says("The first k (1 .. 6) parts of the SHAPE at (M, N) together. BAD.");
        GrowingCorners x = small();
        for (int k : new int[] {LEAST, -1, 0, 7, 8, MOST}) {
            check.due("ways(" + k + ")", x.ways(k), BAD);
        }
        check.due("ways(1)", x.ways(1), 16);
        for (int k = 2; k <= 6; k++) {
            check.due("ways(" + k + "): all weights", x.ways(k), 21);
        }
        check.due("ways(6) of the greatest", alike(6, 6, 20).ways(6), 720);
        check.due("ways(5) of the greatest", alike(6, 6, 20).ways(5), 700);
        check.due("ways(1) of a new object", new GrowingCorners().ways(1), 0);
    }

    private static void noPlaceForSums() {
        check.says("Z. BAD.");
        GrowingCorners x = small();
        for (int[] p : NO_PLACES) {
            check.due("sums(" + p[0] + ", " + p[1] + ")", x.sums(p[0], p[1]), BAD);
        }
        check.due("sums(0, 0)", x.sums(0, 0), 1);
        check.due("sums(1, 2)", x.sums(1, 2), (1 * 2 * 3 + 1 * 2 * 5 + 1 * 4 * 5) * 6);
    }

    private static void sumsWithZeros() {
        check.says("of all WAYS the products of their WEIGHTS (0 at first)");
        GrowingCorners x = new GrowingCorners();
        check.due("sums(0, 0)", x.sums(0, 0), 0);
        check.due("sums(2, 2)", x.sums(2, 2), 0);
        GrowingCorners y = Fill.box(new int[][] {{2, 0}, {3, 5}});
        check.due("sums(0, 1)", y.sums(0, 1), 0);
        check.due("sums(1, 1): one way alone", y.sums(1, 1), 30);
        y.weight(0, 0, 0);
        check.due("sums(1, 1): both begin at 0", y.sums(1, 1), 0);
    }

    private static void sumsBelowTwoToThe63() {
        check.says("Z(i, j) (below 2^63)");
        GrowingCorners x = alike(6, 6, 20);
        check.due("sums(5, 5)", x.sums(5, 5), 252L * 204_800_000_000_000L);
        check.due("sums(5, 4)", x.sums(5, 4), 126L * 10_240_000_000_000L);
        check.due("sums(0, 5)", x.sums(0, 5), 64_000_000L);
        check.due("sums(3, 4): beyond an int", x.sums(3, 4), 35L * 25_600_000_000L);
    }

    private static void servedByATime() {
        check.says("How many customers have been served at desk i by a time t");
        GrowingCorners x = small();
        // G: 1 3 6 / 5 10 16
        int[][] at = {{0, 0, 0}, {0, 1, 1}, {0, 2, 1}, {0, 3, 2}, {0, 5, 2}, {0, 6, 3}, {0, MOST, 3},
            {1, 0, 0}, {1, 4, 0}, {1, 5, 1}, {1, 9, 1}, {1, 10, 2}, {1, 15, 2}, {1, 16, 3}, {1, MOST, 3}};
        for (int[] a : at) {
            check.due("served(" + a[0] + ", " + a[1] + ")", x.served(a[0], a[1]), a[2]);
        }
        check.due("served(2, 0): all of no weight", new GrowingCorners().served(2, 0), 3);
        GrowingCorners column = alike(6, 1, 20);
        check.due("served(5, 119) of one column", column.served(5, 119), 0);
        check.due("served(5, 120) of one column", column.served(5, 120), 1);
        GrowingCorners great = alike(6, 6, 20);
        check.due("served(5, 219)", great.served(5, 219), 5);
        check.due("served(5, 220)", great.served(5, 220), 6);
        check.due("served(5, 119)", great.served(5, 119), 0);
        check.due("served(5, 120)", great.served(5, 120), 1);
    }

    private static void servedAtNoDesk() {
        check.says("served: BAD");
        GrowingCorners x = small();
        for (int desk : new int[] {LEAST, -1, 2, 3, 6, MOST}) {
            check.due("served(" + desk + ", 5)", x.served(desk, 5), BAD);
        }
        x.turn();
        check.due("served(2, 16) turned", x.served(2, 16), 2);
        check.due("served(3, 16) turned", x.served(3, 16), BAD);
    }

    private static void timeBelowZero() {
        check.says("BAD: also t below 0");
        GrowingCorners x = new GrowingCorners();
        for (int t : new int[] {-1, -2, LEAST}) {
            check.due("served(0, " + t + ")", x.served(0, t), BAD);
        }
        check.due("served(0, 0)", x.served(0, 0), 3);
    }

    private static void lineBeginsAndEnds() {
        check.says("THE LINE begins at (0, 0); it ends at (M - 1, N - 1)");
        for (int m = 1; m <= 6; m++) {
            for (int n = 1; n <= 6; n++) {
                GrowingCorners x = alike(m, n, 3);
                check.due("line(0) of " + m + ", " + n, x.line(0), 0);
                check.due("its last place", x.line(m + n - 2), 10 * (m - 1) + n - 1);
                check.due("behind its last place", x.line(m + n - 1), BAD);
            }
        }
    }

    private static void lineOfLikeOnes() {
        check.says("to where G is less (of like ones to the next column)");
        GrowingCorners x = Fill.box(new int[][] {{0, 5}, {5, 0}});
        check.due("line(1), like", x.line(1), 1);
        x.weight(1, 0, 4);
        check.due("line(1), less in the next row", x.line(1), 10);
        x.weight(1, 0, 6);
        check.due("line(1), less in the next column", x.line(1), 1);
        // G, not the weight itself: behind (0, 1) it is 11 in the next row, 7 in the next column.
        GrowingCorners y = Fill.box(new int[][] {{0, 3, 4}, {9, 2, 0}, {0, 0, 0}});
        check.due("line(1)", y.line(1), 1);
        check.due("line(2): by G", y.line(2), 2);
    }

    private static void lineWhereButOneIsThere() {
        check.says("where but one is there, to that");
        GrowingCorners row = alike(1, 6, 20);
        GrowingCorners column = alike(6, 1, 20);
        for (int s = 0; s < 6; s++) {
            check.due("line(" + s + ") of one row", row.line(s), s);
            check.due("line(" + s + ") of one column", column.line(s), 10 * s);
        }
        GrowingCorners x = Fill.box(new int[][] {{0, 20, 0}, {0, 20, 0}, {0, 20, 0}});
        int[] places = {0, 10, 20, 21, 22};
        for (int s = 0; s < places.length; s++) {
            check.due("line(" + s + ") on the last row", x.line(s), places[s]);
        }
    }

    private static void lineBehindItsEnd() {
        check.says("Place s (0, 1, ..) of THE LINE. BAD.");
        GrowingCorners x = small();
        for (int s : new int[] {LEAST, -1, 4, 5, 11, MOST}) {
            check.due("line(" + s + ")", x.line(s), BAD);
        }
        check.due("line(3)", x.line(3), 12);
        GrowingCorners one = Fill.box(new int[][] {{0}});
        check.due("line(0) of one place", one.line(0), 0);
        check.due("line(1) of one place", one.line(1), BAD);
    }

    private static void boxesThatBecameSmaller() {
        check.says("THE BOX has M rows, N columns: what was beyond them weighs nothing");
        GrowingCorners x = alike(6, 6, 20);
        x.best(5, 5);
        x.sums(5, 5);
        x.ways(6);
        x.box(2, 2);
        x.weight(1, 1, 1);
        check.due("best(1, 1)", x.best(1, 1), 1);
        check.due("sums(1, 1)", x.sums(1, 1), 0);
        check.due("ways(6)", x.ways(6), 1);
        check.due("shape(2, 2, 1)", x.shape(2, 2, 1), 0);
        check.due("served(1, 0)", x.served(1, 0), 1);
        check.due("line(2)", x.line(2), 11);
        check.due("line(3)", x.line(3), BAD);
    }
}
