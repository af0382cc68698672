/** Puts whole boxes, words and tableaux into an object. */
final class Fill {
    private Fill() {
    }

    static GrowingCorners box(int[][] rows) {
        GrowingCorners x = new GrowingCorners();
        x.box(rows.length, rows[0].length);
        for (int i = 0; i < rows.length; i++) {
            for (int j = 0; j < rows[0].length; j++) {
                x.weight(i, j, rows[i][j]);
            }
        }
        return x;
    }

    static GrowingCorners word(int... letters) {
        GrowingCorners x = new GrowingCorners();
        for (int letter : letters) {
            x.letter(letter);
        }
        return x;
    }

    static void laid(GrowingCorners x, int which, int[][] rows) {
        for (int r = 0; r < rows.length; r++) {
            for (int number : rows[r]) {
                x.lay(which, r, number);
            }
        }
    }

    static void isTableau(Check check, GrowingCorners x, int which, int[][] rows) {
        for (int r = 0; r < 9; r++) {
            int length = r < rows.length ? rows[r].length : 0;
            check.due("row(" + r + ")", x.row(r), length);
            for (int c = 0; c < length; c++) {
                check.due("place(" + which + ", " + r + ", " + c + ")", x.place(which, r, c), rows[r][c]);
            }
            check.due("place(" + which + ", " + r + ", " + length + ")", x.place(which, r, length),
                    GrowingCorners.NONE);
        }
    }

    static void isBox(Check check, GrowingCorners x, int[][] rows) {
        check.due("best below", x.best(rows.length, 0), GrowingCorners.BAD);
        check.due("best beside", x.best(0, rows[0].length), GrowingCorners.BAD);
        for (int i = 0; i < rows.length; i++) {
            for (int j = 0; j < rows[0].length; j++) {
                check.due("weight at " + i + ", " + j, x.between(i, j, i, j), rows[i][j]);
            }
        }
    }
}
