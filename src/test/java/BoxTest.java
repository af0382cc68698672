/** Promises 1 (the box of a new object), 2 box, 3 weight, 8 turn. */
public final class BoxTest {
    private static final Check check = new Check();

    public static void main(String[] args) {
        newObject();
        boxes();
        weights();
        turns();
        check.end();
    }

    private static void newObject() {
        Fill.isBox(check, new GrowingCorners(), new int[3][3]);
        GrowingCorners x = new GrowingCorners();
        for (int s = 0; s < 4; s++) {
            check.due("drop on a new object", x.drop(s), GrowingCorners.NULL);
        }
        check.due("clear on a new object", x.clear(), 0);
        check.due("unlay on a new object", x.unlay(), 0);
        check.due("row(0) on a new object", x.row(0), 0);
        check.due("longest(0) on a new object", x.longest(0), 0);
        check.due("longest(1) on a new object", x.longest(1), 0);
        check.due("back on a new object", x.back(), 0);
        check.due("wordOf on a new object", x.wordOf(), 0);
        GrowingCorners other = new GrowingCorners();
        x.weight(0, 0, 7);
        x.letter(3);
        check.due("objects share no box", other.best(0, 0), 0);
        check.due("objects share no word", other.clear(), 0);
    }

    private static void boxes() {
        for (int m = 1; m <= 6; m++) {
            for (int n = 1; n <= 6; n++) {
                GrowingCorners x = new GrowingCorners();
                x.weight(0, 0, 5);
                check.due("box(" + m + ", " + n + ")", x.box(m, n), 1);
                Fill.isBox(check, x, new int[m][n]);
            }
        }
        GrowingCorners x = new GrowingCorners();
        x.weight(2, 2, 9);
        int[][] wrong = {{0, 1}, {1, 0}, {7, 1}, {1, 7}, {-1, 3}, {3, -1},
            {Integer.MIN_VALUE, 1}, {1, Integer.MAX_VALUE}};
        for (int[] w : wrong) {
            check.due("box(" + w[0] + ", " + w[1] + ")", x.box(w[0], w[1]), GrowingCorners.BAD);
        }
        Fill.isBox(check, x, new int[][] {{0, 0, 0}, {0, 0, 0}, {0, 0, 9}});
        check.due("box of the same sides", x.box(3, 3), 1);
        Fill.isBox(check, x, new int[3][3]);
    }

    private static void weights() {
        GrowingCorners x = new GrowingCorners();
        x.box(2, 6);
        check.due("weight(1, 5, 20)", x.weight(1, 5, 20), 0);
        check.due("weight(1, 5, 0)", x.weight(1, 5, 0), 20);
        check.due("weight(1, 5, 3)", x.weight(1, 5, 3), 0);
        int[][] wrong = {{2, 0, 1}, {0, 6, 1}, {-1, 0, 1}, {0, -1, 1}, {1, 5, 21}, {1, 5, -1},
            {Integer.MAX_VALUE, 0, 1}, {0, Integer.MIN_VALUE, 1}, {1, 5, Integer.MAX_VALUE}};
        for (int[] w : wrong) {
            check.due("weight(" + w[0] + ", " + w[1] + ", " + w[2] + ")", x.weight(w[0], w[1], w[2]),
                    GrowingCorners.BAD);
        }
        Fill.isBox(check, x, new int[][] {{0, 0, 0, 0, 0, 0}, {0, 0, 0, 0, 0, 3}});
    }

    private static void turns() {
        GrowingCorners x = Fill.box(new int[][] {{1, 2, 3}, {4, 5, 6}});
        check.due("turn", x.turn(), 1);
        Fill.isBox(check, x, new int[][] {{1, 4}, {2, 5}, {3, 6}});
        check.due("turn again", x.turn(), 1);
        Fill.isBox(check, x, new int[][] {{1, 2, 3}, {4, 5, 6}});
        GrowingCorners square = Fill.box(new int[][] {{1, 2}, {3, 4}});
        square.turn();
        Fill.isBox(check, square, new int[][] {{1, 3}, {2, 4}});
        GrowingCorners thin = Fill.box(new int[][] {{1, 2, 3, 4, 5, 6}});
        thin.turn();
        Fill.isBox(check, thin, new int[][] {{1}, {2}, {3}, {4}, {5}, {6}});
    }
}
