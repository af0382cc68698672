/** Promises 16 letter, 17 clear, 18 row, 19 place, 20 longest, 24 wordOf. */
public final class WordsTest {
    private static final Check check = new Check();

    public static void main(String[] args) {
        letters();
        tableaux();
        refusedPlaces();
        longestRows();
        boxWords();
        check.end();
    }

    private static void letters() {
        GrowingCorners x = new GrowingCorners();
        check.due("letter(0)", x.letter(0), GrowingCorners.BAD);
        check.due("letter(10)", x.letter(10), GrowingCorners.BAD);
        check.due("letter(min)", x.letter(Integer.MIN_VALUE), GrowingCorners.BAD);
        for (int t = 1; t <= 40; t++) {
            check.due("letter " + t, x.letter(1 + t % 9), t);
        }
        check.due("letter(1) of a full word", x.letter(1), GrowingCorners.FULL);
        check.due("letter(0) of a full word", x.letter(0), GrowingCorners.BAD);
        check.due("clear", x.clear(), 40);
        check.due("clear again", x.clear(), 0);
        Fill.isTableau(check, x, 0, new int[][] {});
        check.due("letter of a word that was cleared", x.letter(9), 1);
        Fill.isTableau(check, x, 1, new int[][] {{1}});
    }

    private static void tableaux() {
        GrowingCorners x = Fill.word(2, 2, 1, 3, 2, 1);
        Fill.isTableau(check, x, 0, new int[][] {{1, 1, 2}, {2, 2}, {3}});
        Fill.isTableau(check, x, 1, new int[][] {{1, 2, 4}, {3, 5}, {6}});
        GrowingCorners falling = Fill.word(9, 8, 7, 6, 5, 4, 3, 2, 1, 1);
        Fill.isTableau(check, falling, 0, new int[][] {{1, 1}, {2}, {3}, {4}, {5}, {6}, {7}, {8}, {9}});
        Fill.isTableau(check, falling, 1, new int[][] {{1, 10}, {2}, {3}, {4}, {5}, {6}, {7}, {8}, {9}});
    }

    private static void refusedPlaces() {
        GrowingCorners x = Fill.word(1, 2);
        check.due("row(-1)", x.row(-1), GrowingCorners.BAD);
        check.due("row(9)", x.row(9), GrowingCorners.BAD);
        check.due("row(8)", x.row(8), 0);
        int[][] wrong = {{-1, 0, 0}, {2, 0, 0}, {0, -1, 0}, {1, 9, 0}, {0, 0, -1}, {1, 0, Integer.MIN_VALUE}};
        for (int[] w : wrong) {
            check.due("place(" + w[0] + ", " + w[1] + ", " + w[2] + ")", x.place(w[0], w[1], w[2]),
                    GrowingCorners.BAD);
        }
        check.due("place(0, 0, 2)", x.place(0, 0, 2), GrowingCorners.NONE);
        check.due("place(1, 8, 0)", x.place(1, 8, 0), GrowingCorners.NONE);
        check.due("place(1, 0, 39)", x.place(1, 0, 39), GrowingCorners.NONE);
        // The document tells no bound for c: what is behind every row is a place that there is not.
        check.due("place(0, 0, 40)", x.place(0, 0, 40), GrowingCorners.NONE);
        check.due("place(0, 0, max)", x.place(0, 0, Integer.MAX_VALUE), GrowingCorners.NONE);
    }

    private static void longestRows() {
        GrowingCorners x = Fill.word(3, 3, 1, 2, 2, 1, 4);
        check.due("longest(0)", x.longest(0), 4);
        check.due("longest(1)", x.longest(1), 3);
        check.due("longest(-1)", x.longest(-1), GrowingCorners.BAD);
        check.due("longest(2)", x.longest(2), GrowingCorners.BAD);
        GrowingCorners alike = Fill.word(5, 5, 5);
        check.due("longest(0) of like letters", alike.longest(0), 3);
        check.due("longest(1) of like letters", alike.longest(1), 1);
    }

    private static void boxWords() {
        GrowingCorners x = Fill.box(new int[][] {{1, 0, 2}, {0, 3, 1}});
        x.letter(9);
        check.due("wordOf", x.wordOf(), 7);
        // 1 3 3 2 2 2 3
        Fill.isTableau(check, x, 0, new int[][] {{1, 2, 2, 2, 3}, {3, 3}});
        Fill.isTableau(check, x, 1, new int[][] {{1, 2, 3, 6, 7}, {4, 5}});
        check.due("a letter behind the box's word", x.letter(1), 8);
        GrowingCorners full = Fill.box(new int[][] {{20, 20}});
        check.due("wordOf of 40", full.wordOf(), 40);
        full.box(1, 3);
        full.weight(0, 0, 20);
        full.weight(0, 1, 20);
        full.weight(0, 2, 1);
        full.clear();
        full.letter(4);
        check.due("wordOf of 41", full.wordOf(), GrowingCorners.FULL);
        Fill.isTableau(check, full, 0, new int[][] {{4}});
        full.box(6, 6);
        check.due("wordOf of no weights", full.wordOf(), 0);
        check.due("clear", full.clear(), 0);
        full.weight(5, 5, 1);
        check.due("wordOf of the last place", full.wordOf(), 1);
        check.due("the letter of the last column", full.place(0, 0, 0), 6);
    }
}
