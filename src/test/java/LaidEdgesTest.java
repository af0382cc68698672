/** The document's sentences on what is laid and read back (promises 21 to 23) that name an edge: a test for each. */
public final class LaidEdgesTest {
    private static final int BAD = GrowingCorners.BAD;
    private static final int NOT = GrowingCorners.NOT;
    private static final int FULL = GrowingCorners.FULL;
    private static final int LEAST = Integer.MIN_VALUE;
    private static final int MOST = Integer.MAX_VALUE;
    private static final int[][] NOTHING = {};
    private static final int[][] NINE_ROWS = {{1}, {2}, {3}, {4}, {5}, {6}, {7}, {8}, {9}};
    private static final Check check = new Check();

    public static void main(String[] args) {
        nothingLaidAtFirst();
        pOrQ();
        numbersFromOneToForty();
        aNewRow();
        noRowAfterTheNext();
        upToNineRows();
        fortyPlacesOfOne();
        fortyPlacesInManyRows();
        firstRefusalOfLay();
        howManyPlacesThatRowHas();
        nothingIsLaidThen();
        bothFull();
        backOfNothing();
        backOfOne();
        backOfForty();
        backOfNineRows();
        backIsTheWord();
        laidStays();
        eachNoLongerThanTheOneAbove();
        rowsOfPNotFalling();
        columnsOfPRising();
        lettersOfPFromOneToNine();
        rowsOfQRising();
        columnsOfQRising();
        eachOnceFromOneOn();
        asManyPlacesInBoth();
        check.end();
    }

    private static int[][] oneRow(int length, int first, int step) {
        int[][] rows = new int[1][length];
        for (int c = 0; c < length; c++) {
            rows[0][c] = first + c * step;
        }
        return rows;
    }

    private static int placesOf(int[][] rows) {
        int places = 0;
        for (int[] row : rows) {
            places += row.length;
        }
        return places;
    }

    private static GrowingCorners laid(int[][] p, int[][] q) {
        GrowingCorners x = Fill.word(4, 2);
        Fill.laid(x, 0, p);
        Fill.laid(x, 1, q);
        return x;
    }

    private static void isRead(int[][] p, int[][] q) {
        GrowingCorners x = laid(p, q);
        check.due("back", x.back(), placesOf(p));
        Fill.isTableau(check, x, 0, p);
        Fill.isTableau(check, x, 1, q);
        check.due("unlay behind back", x.unlay(), 0);
    }

    private static void isNot(int[][] p, int[][] q) {
        GrowingCorners x = laid(p, q);
        check.due("back", x.back(), NOT);
        check.due("back again", x.back(), NOT);
        Fill.isTableau(check, x, 0, new int[][] {{2}, {4}});
        Fill.isTableau(check, x, 1, new int[][] {{1}, {2}});
        check.due("unlay", x.unlay(), placesOf(p) + placesOf(q));
    }

    private static void nothingLaidAtFirst() {
        check.says("an empty WORD, nothing LAID");
        check.due("unlay", new GrowingCorners().unlay(), 0);
        check.due("back", new GrowingCorners().back(), 0);
        check.due("lay(0, 0, 1)", new GrowingCorners().lay(0, 0, 1), 1);
        check.due("lay(1, 0, 1)", new GrowingCorners().lay(1, 0, 1), 1);
    }

    private static void pOrQ() {
        check.says("of P (which 0), of Q (1). BAD.");
        GrowingCorners x = new GrowingCorners();
        for (int which : new int[] {LEAST, -1, 2, 3, MOST}) {
            check.due("lay(" + which + ", 0, 1)", x.lay(which, 0, 1), BAD);
        }
        check.due("unlay", x.unlay(), 0);
        check.due("lay(0, 0, 1)", x.lay(0, 0, 1), 1);
        check.due("lay(0, 0, 1)", x.lay(0, 0, 1), 2);
        check.due("lay(1, 0, 1): a row of its own", x.lay(1, 0, 1), 1);
    }

    private static void numbersFromOneToForty() {
        check.says("A number 1 .. 40 is LAID");
        GrowingCorners x = new GrowingCorners();
        for (int which = 0; which < 2; which++) {
            for (int v : new int[] {LEAST, -1, 0, 41, 42, MOST}) {
                check.due("lay(" + which + ", 0, " + v + ")", x.lay(which, 0, v), BAD);
            }
            check.due("lay(" + which + ", 0, 1)", x.lay(which, 0, 1), 1);
            check.due("lay(" + which + ", 0, 40)", x.lay(which, 0, 40), 2);
            check.due("lay(" + which + ", 0, 10)", x.lay(which, 0, 10), 3);
        }
        check.due("unlay", x.unlay(), 6);
    }

    private static void aNewRow() {
        check.says("r as many rows as there are begins a new one (0 .. 8)");
        for (int which = 0; which < 2; which++) {
            GrowingCorners x = new GrowingCorners();
            for (int r = 0; r < 9; r++) {
                check.due("lay begins row " + r, x.lay(which, r, 1), 1);
                check.due("lay goes on with row " + r, x.lay(which, r, 1), 2);
            }
            check.due("lay goes on with row 0", x.lay(which, 0, 1), 3);
            check.due("lay goes on with row 8", x.lay(which, 8, 1), 3);
        }
    }

    private static void noRowAfterTheNext() {
        check.says("lay: BAD (r names no row)");
        GrowingCorners x = new GrowingCorners();
        for (int which = 0; which < 2; which++) {
            for (int rows = 0; rows < 8; rows++) {
                for (int r : new int[] {LEAST, -1, rows + 1, 8, 9, MOST}) {
                    check.due("lay(" + which + ", " + r + ", 1) of " + rows + " rows", x.lay(which, r, 1), BAD);
                }
                check.due("lay(" + which + ", " + rows + ", 1)", x.lay(which, rows, 1), 1);
            }
        }
        check.due("unlay", x.unlay(), 16);
    }

    private static void upToNineRows() {
        check.says("in up to 9 rows");
        for (int which = 0; which < 2; which++) {
            GrowingCorners x = new GrowingCorners();
            Fill.laid(x, which, NINE_ROWS);
            check.due("lay of a tenth row", x.lay(which, 9, 1), BAD);
            check.due("lay of an eleventh row", x.lay(which, 10, 1), BAD);
            check.due("unlay", x.unlay(), 9);
        }
    }

    private static void fortyPlacesOfOne() {
        check.says("FULL: that one has 40 places");
        for (int which = 0; which < 2; which++) {
            GrowingCorners x = new GrowingCorners();
            for (int n = 1; n <= 40; n++) {
                check.due("lay, place " + n, x.lay(which, 0, n), n);
            }
            check.due("lay, place 41 of row 0", x.lay(which, 0, 1), FULL);
            check.due("lay, place 41 of a new row", x.lay(which, 1, 1), FULL);
            check.due("the other one is not full", x.lay(1 - which, 0, 1), 1);
            check.due("unlay", x.unlay(), 41);
            check.due("lay behind unlay", x.lay(which, 0, 1), 1);
        }
    }

    private static void fortyPlacesInManyRows() {
        check.says("40 places at most in up to 9 rows");
        for (int which = 0; which < 2; which++) {
            GrowingCorners x = new GrowingCorners();
            for (int n = 0; n < 40; n++) {
                check.due("lay in row " + n % 9, x.lay(which, n % 9, n + 1), n / 9 + 1);
            }
            for (int r = 0; r < 9; r++) {
                check.due("lay, place 41 in row " + r, x.lay(which, r, 1), FULL);
            }
            check.due("unlay", x.unlay(), 40);
        }
    }

    private static void firstRefusalOfLay() {
        check.says("of several the first that a call names: BAD ahead of FULL");
        GrowingCorners x = new GrowingCorners();
        Fill.laid(x, 0, oneRow(40, 1, 0));
        check.due("lay(0, 0, 0)", x.lay(0, 0, 0), BAD);
        check.due("lay(0, 0, 41)", x.lay(0, 0, 41), BAD);
        check.due("lay(0, 2, 1)", x.lay(0, 2, 1), BAD);
        check.due("lay(0, -1, 1)", x.lay(0, -1, 1), BAD);
        check.due("lay(0, 9, 1)", x.lay(0, 9, 1), BAD);
        check.due("lay(2, 0, 1)", x.lay(2, 0, 1), BAD);
        check.due("lay(0, 0, 1)", x.lay(0, 0, 1), FULL);
    }

    private static void howManyPlacesThatRowHas() {
        check.says("behind all others of row r: how many places that row has");
        GrowingCorners x = new GrowingCorners();
        check.due("lay(0, 0, 3)", x.lay(0, 0, 3), 1);
        check.due("lay(0, 1, 3)", x.lay(0, 1, 3), 1);
        check.due("lay(0, 1, 2), longer than the one above", x.lay(0, 1, 2), 2);
        check.due("lay(0, 0, 1), falling", x.lay(0, 0, 1), 2);
        check.due("lay(0, 1, 2)", x.lay(0, 1, 2), 3);
        check.due("lay(0, 2, 9)", x.lay(0, 2, 9), 1);
    }

    private static void nothingIsLaidThen() {
        check.says("Nothing is LAID: how many places both had");
        GrowingCorners x = laid(new int[][] {{1, 1}, {2}}, new int[][] {{1}});
        check.due("unlay", x.unlay(), 4);
        check.due("unlay again", x.unlay(), 0);
        check.due("lay(0, 1, 1): no row is there", x.lay(0, 1, 1), BAD);
        check.due("lay(1, 1, 1): no row is there", x.lay(1, 1, 1), BAD);
        check.due("lay(0, 0, 5)", x.lay(0, 0, 5), 1);
        check.due("lay(1, 0, 1)", x.lay(1, 0, 1), 1);
        check.due("back", x.back(), 1);
        Fill.isTableau(check, x, 0, new int[][] {{5}});
    }

    private static void bothFull() {
        check.says("how many places both had (40 each)");
        GrowingCorners x = laid(oneRow(40, 1, 0), oneRow(40, 1, 1));
        check.due("unlay", x.unlay(), 80);
        check.due("THE WORD stays", x.clear(), 2);
    }

    private static void backOfNothing() {
        check.says("THE WORD is that: how many letters (nothing is LAID)");
        GrowingCorners x = Fill.word(3, 2, 1);
        check.due("back", x.back(), 0);
        Fill.isTableau(check, x, 0, NOTHING);
        check.due("clear", x.clear(), 0);
    }

    private static void backOfOne() {
        check.says("of any P, Q the word that makes them (one letter)");
        for (int letter = 1; letter <= 9; letter++) {
            isRead(new int[][] {{letter}}, new int[][] {{1}});
        }
    }

    private static void backOfForty() {
        check.says("40 places at most: READ BACK of 40");
        isRead(oneRow(40, 9, 0), oneRow(40, 1, 1));
        int[][] p = new int[5][8];
        int[][] q = new int[5][8];
        for (int n = 0; n < 40; n++) {
            p[n / 8][n % 8] = n / 8 + 1 + n % 8 / 2;
            q[n / 8][n % 8] = n + 1;
        }
        isRead(p, q);
        GrowingCorners x = laid(p, q);
        check.due("lay in a full P", x.lay(0, 4, 9), FULL);
        check.due("lay of a new row in a full Q", x.lay(1, 5, 9), FULL);
        check.due("back: what is refused changed no number", x.back(), 40);
        Fill.isTableau(check, x, 0, p);
        Fill.isTableau(check, x, 1, q);
        check.due("letter behind 40", x.letter(1), FULL);
    }

    private static void backOfNineRows() {
        check.says("in up to 9 rows: READ BACK of 9");
        isRead(NINE_ROWS, NINE_ROWS);
        isRead(new int[][] {{1, 1, 9}, {2, 2}, {3}, {4}, {5}, {6}, {7}, {8}, {9}},
                new int[][] {{1, 3, 12}, {2, 11}, {4}, {5}, {6}, {7}, {8}, {9}, {10}});
    }

    private static void backIsTheWord() {
        check.says("THE WORD is that: how many letters; nothing is LAID then");
        GrowingCorners x = laid(new int[][] {{1, 2}, {2}}, new int[][] {{1, 2}, {3}});
        check.due("back, 2 2 1", x.back(), 3);
        check.due("longest(0)", x.longest(0), 2);
        check.due("longest(1)", x.longest(1), 2);
        check.due("unlay", x.unlay(), 0);
        check.due("lay(0, 1, 1): no row is there", x.lay(0, 1, 1), BAD);
        check.due("lay(1, 1, 1): no row is there", x.lay(1, 1, 1), BAD);
        check.due("letter(1), 2 2 1 1", x.letter(1), 4);
        Fill.isTableau(check, x, 0, new int[][] {{1, 1}, {2, 2}});
        Fill.isTableau(check, x, 1, new int[][] {{1, 2}, {3, 4}});
        check.due("back of nothing", x.back(), 0);
    }

    private static void laidStays() {
        check.says("NOT: it is not as told (LAID stays)");
        GrowingCorners x = laid(new int[][] {{1, 3}, {2}}, new int[][] {{1, 2}});
        check.due("back", x.back(), NOT);
        check.due("lay(1, 1, 3): what is missing", x.lay(1, 1, 3), 1);
        check.due("back", x.back(), 3);
        Fill.isTableau(check, x, 0, new int[][] {{1, 3}, {2}});
        Fill.isTableau(check, x, 1, new int[][] {{1, 2}, {3}});
    }

    private static void eachNoLongerThanTheOneAbove() {
        check.says("each no longer than the one above");
        isRead(new int[][] {{1, 1}, {2, 2}}, new int[][] {{1, 2}, {3, 4}});
        isNot(new int[][] {{1}, {2, 2}}, new int[][] {{1}, {2, 3}});
        isNot(new int[][] {{1, 1}, {2}, {3, 3}}, new int[][] {{1, 2}, {3}, {4, 5}});
    }

    private static void rowsOfPNotFalling() {
        check.says("P's rows not falling");
        isRead(new int[][] {{2, 2, 3}, {3, 3}}, new int[][] {{1, 2, 3}, {4, 5}});
        isNot(new int[][] {{3, 2}}, new int[][] {{1, 2}});
        isNot(new int[][] {{2, 2, 1}, {3, 3}}, new int[][] {{1, 2, 3}, {4, 5}});
        isNot(new int[][] {{1, 2}, {4, 3}}, new int[][] {{1, 2}, {3, 4}});
    }

    private static void columnsOfPRising() {
        check.says("its columns rising");
        isRead(new int[][] {{1, 2}, {2, 3}}, new int[][] {{1, 2}, {3, 4}});
        isNot(new int[][] {{1, 2}, {2, 2}}, new int[][] {{1, 2}, {3, 4}});
        isNot(new int[][] {{2}, {2}}, new int[][] {{1}, {2}});
        isNot(new int[][] {{2}, {1}}, new int[][] {{1}, {2}});
        isNot(new int[][] {{1}, {2}, {2}}, new int[][] {{1}, {2}, {3}});
    }

    private static void lettersOfPFromOneToNine() {
        check.says("letters 1 .. 9");
        isRead(new int[][] {{1, 9}}, new int[][] {{1, 2}});
        isNot(new int[][] {{1, 10}}, new int[][] {{1, 2}});
        isNot(new int[][] {{9}, {10}}, new int[][] {{1}, {2}});
        isNot(new int[][] {{40}}, new int[][] {{1}});
    }

    private static void rowsOfQRising() {
        check.says("Q's rows rising");
        isNot(new int[][] {{1, 1}}, new int[][] {{2, 1}});
        isNot(new int[][] {{1, 1}}, new int[][] {{1, 1}});
        isNot(new int[][] {{1, 1}, {2, 2}}, new int[][] {{1, 2}, {4, 3}});
        isRead(new int[][] {{1, 1}, {2, 2}}, new int[][] {{1, 3}, {2, 4}});
    }

    private static void columnsOfQRising() {
        check.says("Q's columns rising");
        isNot(new int[][] {{1}, {2}}, new int[][] {{2}, {1}});
        isNot(new int[][] {{1, 1}, {2, 2}}, new int[][] {{1, 4}, {2, 3}});
        isNot(new int[][] {{1, 1}, {2}}, new int[][] {{2, 3}, {1}});
    }

    private static void eachOnceFromOneOn() {
        check.says("1 .. how many places there are, each once");
        isNot(new int[][] {{1, 1}, {2}}, new int[][] {{1, 2}, {2}});
        isNot(new int[][] {{1, 1}}, new int[][] {{1, 3}});
        isNot(new int[][] {{1, 1}}, new int[][] {{2, 3}});
        isNot(new int[][] {{1}}, new int[][] {{2}});
        isNot(new int[][] {{1}}, new int[][] {{40}});
        isNot(oneRow(39, 1, 0), oneRow(39, 2, 1));
        isRead(oneRow(39, 1, 0), oneRow(39, 1, 1));
    }

    private static void asManyPlacesInBoth() {
        check.says("of any P, Q (the places of both are the same)");
        isNot(new int[][] {{1}}, NOTHING);
        isNot(NOTHING, new int[][] {{1}});
        isNot(new int[][] {{1, 1}}, new int[][] {{1}});
        isNot(new int[][] {{1}}, new int[][] {{1, 2}});
        isNot(new int[][] {{1, 1}}, new int[][] {{1}, {2}});
        isNot(new int[][] {{1}, {2}}, new int[][] {{1, 2}});
        isNot(oneRow(40, 1, 0), oneRow(39, 1, 1));
    }
}
