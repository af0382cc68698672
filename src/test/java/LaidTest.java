/** Promises 21 lay, 22 unlay, 23 back. */
public final class LaidTest {
    private static final int[][] P = {{1, 1, 2}, {2, 2}, {3}};
    private static final int[][] Q = {{1, 2, 4}, {3, 5}, {6}};
    private static final Check check = new Check();

    public static void main(String[] args) {
        laying();
        fullTableaux();
        unlaying();
        readBack();
        notAsTold();
        check.end();
    }

    private static void laying() {
        GrowingCorners x = new GrowingCorners();
        check.due("lay(0, 1, 1) ahead of row 0", x.lay(0, 1, 1), GrowingCorners.BAD);
        check.due("lay(0, 0, 1)", x.lay(0, 0, 1), 1);
        check.due("lay(1, 1, 1): Q has no row yet", x.lay(1, 1, 1), GrowingCorners.BAD);
        check.due("lay(0, 0, 40)", x.lay(0, 0, 40), 2);
        check.due("lay(0, 1, 7)", x.lay(0, 1, 7), 1);
        check.due("lay(0, 1, 6)", x.lay(0, 1, 6), 2);
        check.due("lay(0, 1, 5), longer than row 0", x.lay(0, 1, 5), 3);
        check.due("lay(0, 0, 2)", x.lay(0, 0, 2), 3);
        check.due("lay(0, 3, 2)", x.lay(0, 3, 2), GrowingCorners.BAD);
        int[][] wrong = {{-1, 0, 1}, {2, 0, 1}, {0, -1, 1}, {0, 0, 0}, {0, 0, 41}, {1, 0, -1},
            {0, Integer.MAX_VALUE, 1}, {0, 0, Integer.MIN_VALUE}};
        for (int[] w : wrong) {
            check.due("lay(" + w[0] + ", " + w[1] + ", " + w[2] + ")", x.lay(w[0], w[1], w[2]), GrowingCorners.BAD);
        }
        for (int r = 2; r < 9; r++) {
            check.due("lay begins row " + r, x.lay(0, r, 1), 1);
        }
        check.due("lay(0, 9, 1)", x.lay(0, 9, 1), GrowingCorners.BAD);
        check.due("unlay", x.unlay(), 13);
    }

    private static void fullTableaux() {
        GrowingCorners x = new GrowingCorners();
        for (int r = 0; r < 4; r++) {
            for (int c = 1; c <= 10; c++) {
                check.due("lay of ten in row " + r, x.lay(1, r, c), c);
            }
        }
        check.due("a place more in a row", x.lay(1, 3, 1), GrowingCorners.FULL);
        check.due("a row more", x.lay(1, 4, 1), GrowingCorners.FULL);
        check.due("a row that is none", x.lay(1, 5, 1), GrowingCorners.BAD);
        check.due("no number", x.lay(1, 0, 41), GrowingCorners.BAD);
        check.due("P is not full", x.lay(0, 0, 1), 1);
        check.due("unlay", x.unlay(), 41);
    }

    private static void unlaying() {
        GrowingCorners x = new GrowingCorners();
        x.letter(5);
        Fill.laid(x, 0, P);
        Fill.laid(x, 1, new int[][] {{1}, {2}});
        check.due("unlay", x.unlay(), 8);
        check.due("unlay again", x.unlay(), 0);
        check.due("lay begins anew", x.lay(0, 1, 1), GrowingCorners.BAD);
        check.due("the word stays", x.clear(), 1);
    }

    private static void readBack() {
        GrowingCorners x = new GrowingCorners();
        x.letter(9);
        Fill.laid(x, 0, P);
        Fill.laid(x, 1, Q);
        check.due("the word stays until it is read back", x.row(0), 1);
        check.due("back", x.back(), 6);
        Fill.isTableau(check, x, 0, P);
        Fill.isTableau(check, x, 1, Q);
        check.due("nothing is laid then", x.unlay(), 0);
        check.due("a letter behind that word", x.letter(1), 7);
        check.due("back of nothing laid", x.back(), 0);
        Fill.isTableau(check, x, 0, new int[][] {});
        int[][] ninefold = {{1}, {2}, {3}, {4}, {5}, {6}, {7}, {8}, {9}};
        Fill.laid(x, 0, ninefold);
        Fill.laid(x, 1, ninefold);
        check.due("back of nine rows", x.back(), 9);
        Fill.isTableau(check, x, 0, ninefold);
        Fill.isTableau(check, x, 1, ninefold);
    }

    private static void notAsTold() {
        not("P falls in a row", new int[][] {{2, 1}}, new int[][] {{1, 2}});
        not("P does not rise in a column", new int[][] {{1, 2}, {1}}, new int[][] {{1, 2}, {3}});
        not("P's letter is 10", new int[][] {{1, 10}}, new int[][] {{1, 2}});
        not("P's letter is 10 at its end", new int[][] {{1, 1}, {10}}, new int[][] {{1, 2}, {3}});
        not("a row is longer than the one above", new int[][] {{1}, {2, 2}}, new int[][] {{1}, {2, 3}});
        not("Q has fewer rows", new int[][] {{1}, {2}}, new int[][] {{1}});
        not("Q has more places", new int[][] {{1}}, new int[][] {{1, 2}});
        not("Q alone", new int[][] {}, new int[][] {{1}});
        not("P alone", new int[][] {{1}}, new int[][] {});
        not("another shape of as many places", new int[][] {{1, 1}, {2}}, new int[][] {{1, 2, 3}});
        not("Q falls in a row", new int[][] {{1, 1}}, new int[][] {{2, 1}});
        not("Q falls in a column", new int[][] {{1}, {2}}, new int[][] {{2}, {1}});
        not("Q has a number twice", new int[][] {{1, 1}, {2}}, new int[][] {{1, 2}, {2}});
        not("Q has a number above all", new int[][] {{1, 1}}, new int[][] {{1, 3}});
        not("Q has 40 for 1", new int[][] {{1}}, new int[][] {{40}});
    }

    private static void not(String why, int[][] p, int[][] q) {
        GrowingCorners x = Fill.word(4, 2);
        Fill.laid(x, 0, p);
        Fill.laid(x, 1, q);
        check.due("back: " + why, x.back(), GrowingCorners.NOT);
        Fill.isTableau(check, x, 0, new int[][] {{2}, {4}});
        int places = 0;
        for (int[] row : p) {
            places += row.length;
        }
        for (int[] row : q) {
            places += row.length;
        }
        check.due("LAID stays: " + why, x.unlay(), places);
    }
}
