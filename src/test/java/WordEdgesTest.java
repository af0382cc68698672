/** The document's sentences on words and tableaux (promises 16 to 20 and 24) that name an edge: a test for each. */
public final class WordEdgesTest {
    private static final int BAD = GrowingCorners.BAD;
    private static final int FULL = GrowingCorners.FULL;
    private static final int NONE = GrowingCorners.NONE;
    private static final int LEAST = Integer.MIN_VALUE;
    private static final int MOST = Integer.MAX_VALUE;
    private static final int[][] NOTHING = {};
    private static final Check check = new Check();

    public static void main(String[] args) {
        lettersFromOneToNine();
        fortyLettersAtMost();
        firstRefusalOfLetter();
        theFirstThatIsGreater();
        behindTheRowsEnd();
        numbersOfFortyLetters();
        clearsAnEmptyAndAFullWord();
        rowsFromZeroToEight();
        thereIsNoSuchRow();
        placesOfPAndQ();
        thereIsNoPlace();
        firstRefusalOfPlace();
        longestOfAnEmptyWord();
        longestOfLikeAndFallingLetters();
        whatZeroAndOne();
        wordsOfEmptyBoxes();
        moreThanFortyLetters();
        rowByRowColumnByColumn();
        theWordInsteadOfTheOld();
        fiveHundredAndTwelveCalls();
        check.end();
    }

    private static GrowingCorners manyOf(int letter, int count) {
        GrowingCorners x = new GrowingCorners();
        for (int t = 0; t < count; t++) {
            x.letter(letter);
        }
        return x;
    }

    private static void lettersFromOneToNine() {
        check.says("A WORD is letters 1 .. 9");
        GrowingCorners x = new GrowingCorners();
        for (int letter : new int[] {LEAST, -9, -1, 0, 10, 11, MOST}) {
            check.due("letter(" + letter + ")", x.letter(letter), BAD);
        }
        Fill.isTableau(check, x, 0, NOTHING);
        check.due("letter(9)", x.letter(9), 1);
        check.due("letter(1)", x.letter(1), 2);
        Fill.isTableau(check, x, 0, new int[][] {{1}, {9}});
    }

    private static void fortyLettersAtMost() {
        check.says("(40 at most). FULL: 40.");
        GrowingCorners x = manyOf(5, 39);
        check.due("letter(1), the 40th", x.letter(1), 40);
        for (int letter = 1; letter <= 9; letter++) {
            check.due("letter(" + letter + "), the 41st", x.letter(letter), FULL);
        }
        check.due("row(0)", x.row(0), 39);
        check.due("row(1)", x.row(1), 1);
        check.due("place(0, 1, 0)", x.place(0, 1, 0), 5);
        check.due("place(1, 1, 0)", x.place(1, 1, 0), 40);
        check.due("clear", x.clear(), 40);
        check.due("letter(1) of an empty word", x.letter(1), 1);
    }

    private static void firstRefusalOfLetter() {
        check.says("of several the first that a call names: BAD ahead of FULL");
        GrowingCorners x = manyOf(1, 40);
        check.due("letter(0)", x.letter(0), BAD);
        check.due("letter(10)", x.letter(10), BAD);
        check.due("letter(9)", x.letter(9), FULL);
    }

    private static void theFirstThatIsGreater() {
        check.says("in row 0 the first letter greater than x becomes x, and is inserted in row 1 so, and so on");
        Fill.isTableau(check, Fill.word(1, 3, 3, 5, 2), 0, new int[][] {{1, 2, 3, 5}, {3}});
        Fill.isTableau(check, Fill.word(1, 3, 3, 5, 3), 0, new int[][] {{1, 3, 3, 3}, {5}});
        Fill.isTableau(check, Fill.word(3, 3, 2, 2), 0, new int[][] {{2, 2}, {3, 3}});
        Fill.isTableau(check, Fill.word(3, 3, 2, 2, 1), 0, new int[][] {{1, 2}, {2, 3}, {3}});
        Fill.isTableau(check, Fill.word(3, 3, 2, 2, 1), 1, new int[][] {{1, 2}, {3, 4}, {5}});
    }

    private static void behindTheRowsEnd() {
        check.says("where none is greater, x comes behind the row's end");
        Fill.isTableau(check, Fill.word(4, 4), 0, new int[][] {{4, 4}});
        Fill.isTableau(check, Fill.word(4, 4), 1, new int[][] {{1, 2}});
        Fill.isTableau(check, Fill.word(1, 9, 9), 0, new int[][] {{1, 9, 9}});
        Fill.isTableau(check, Fill.word(2, 1, 2, 1), 0, new int[][] {{1, 1}, {2, 2}});
        Fill.isTableau(check, Fill.word(2, 1, 2, 1), 1, new int[][] {{1, 3}, {2, 4}});
    }

    private static void numbersOfFortyLetters() {
        check.says("Q has at the place where P grew by the t-th letter (1, 2, ..) t");
        GrowingCorners x = manyOf(1, 40);
        for (int t = 1; t <= 40; t++) {
            check.due("place(0, 0, " + (t - 1) + ")", x.place(0, 0, t - 1), 1);
            check.due("place(1, 0, " + (t - 1) + ")", x.place(1, 0, t - 1), t);
        }
        check.due("place(1, 0, 40)", x.place(1, 0, 40), NONE);
        x.clear();
        x.letter(3);
        x.letter(2);
        Fill.isTableau(check, x, 1, new int[][] {{1}, {2}});
    }

    private static void clearsAnEmptyAndAFullWord() {
        check.says("THE WORD is empty: how many letters it had");
        GrowingCorners x = manyOf(7, 40);
        check.due("clear of a full word", x.clear(), 40);
        check.due("clear of an empty word", x.clear(), 0);
        Fill.isTableau(check, x, 0, NOTHING);
        Fill.isTableau(check, x, 1, NOTHING);
        check.due("longest(0)", x.longest(0), 0);
        check.due("longest(1)", x.longest(1), 0);
        check.due("clear of a new object", new GrowingCorners().clear(), 0);
        GrowingCorners tall = Fill.word(9, 8, 7, 6, 5, 4, 3, 2, 1);
        check.due("clear of nine rows", tall.clear(), 9);
        tall.letter(6);
        Fill.isTableau(check, tall, 0, new int[][] {{6}});
    }

    private static void rowsFromZeroToEight() {
        check.says("BAD: r is not 0 .. 8");
        GrowingCorners x = Fill.word(9, 8, 7, 6, 5, 4, 3, 2, 1);
        for (int r : new int[] {LEAST, -1, 9, 10, MOST}) {
            check.due("row(" + r + ")", x.row(r), BAD);
            check.due("row(" + r + ") of an empty word", new GrowingCorners().row(r), BAD);
        }
        check.due("row(0)", x.row(0), 1);
        check.due("row(8)", x.row(8), 1);
    }

    private static void thereIsNoSuchRow() {
        check.says("How many places row r of P has (0: there is no such row)");
        GrowingCorners x = Fill.word(9, 8, 7, 6, 5, 4, 3, 2);
        check.due("row(7)", x.row(7), 1);
        check.due("row(8)", x.row(8), 0);
        for (int r = 0; r < 9; r++) {
            check.due("row(" + r + ") of an empty word", new GrowingCorners().row(r), 0);
        }
        check.due("row(0) of a full word", manyOf(2, 40).row(0), 40);
        check.due("row(1) of a full word", manyOf(2, 40).row(1), 0);
    }

    private static void placesOfPAndQ() {
        check.says("The letter of P (0), the number of Q (1) at a place. BAD.");
        GrowingCorners x = Fill.word(4, 6, 5);
        int[][] wrong = {{LEAST, 0, 0}, {-1, 0, 0}, {2, 0, 0}, {MOST, 0, 0}, {0, LEAST, 0}, {0, -1, 0}, {1, 9, 0},
            {1, MOST, 0}, {0, 0, -1}, {1, 0, -1}, {0, 0, LEAST}};
        for (int[] w : wrong) {
            check.due("place(" + w[0] + ", " + w[1] + ", " + w[2] + ")", x.place(w[0], w[1], w[2]), BAD);
        }
        check.due("place(0, 0, 1)", x.place(0, 0, 1), 5);
        check.due("place(1, 0, 1)", x.place(1, 0, 1), 2);
        check.due("place(0, 1, 0)", x.place(0, 1, 0), 6);
        check.due("place(1, 1, 0)", x.place(1, 1, 0), 3);
    }

    private static void thereIsNoPlace() {
        check.says("NONE: there is none");
        GrowingCorners x = Fill.word(4, 6, 5);
        for (int which = 0; which < 2; which++) {
            int[][] none = {{0, 2}, {0, 3}, {0, 39}, {1, 1}, {1, 2}, {2, 0}, {8, 0}, {8, 39}};
            for (int[] p : none) {
                check.due("place(" + which + ", " + p[0] + ", " + p[1] + ")", x.place(which, p[0], p[1]), NONE);
            }
            check.due("place of an empty word", new GrowingCorners().place(which, 0, 0), NONE);
            // No bound of c is told: behind every row there is no place.
            check.due("place(" + which + ", 0, 40)", x.place(which, 0, 40), NONE);
            check.due("place(" + which + ", 0, max)", x.place(which, 0, MOST), NONE);
        }
        x.clear();
        check.due("place(0, 0, 0) behind clear", x.place(0, 0, 0), NONE);
        check.due("place(1, 1, 0) behind clear", x.place(1, 1, 0), NONE);
    }

    private static void firstRefusalOfPlace() {
        check.says("of several the first that a call names: BAD ahead of NONE");
        GrowingCorners x = new GrowingCorners();
        check.due("place(2, 0, 0)", x.place(2, 0, 0), BAD);
        check.due("place(-1, 8, 39)", x.place(-1, 8, 39), BAD);
        check.due("place(0, 9, 39)", x.place(0, 9, 39), BAD);
        check.due("place(0, 8, -1)", x.place(0, 8, -1), BAD);
    }

    private static void longestOfAnEmptyWord() {
        check.says("The longest row of letters of THE WORD (an empty one)");
        GrowingCorners x = new GrowingCorners();
        check.due("longest(0)", x.longest(0), 0);
        check.due("longest(1)", x.longest(1), 0);
        x.letter(9);
        check.due("longest(0) of one letter", x.longest(0), 1);
        check.due("longest(1) of one letter", x.longest(1), 1);
    }

    private static void longestOfLikeAndFallingLetters() {
        check.says("that do not fall (0); that fall at each (1)");
        GrowingCorners like = manyOf(9, 40);
        check.due("longest(0) of 40 like letters", like.longest(0), 40);
        check.due("longest(1) of 40 like letters", like.longest(1), 1);
        GrowingCorners falling = Fill.word(9, 8, 7, 6, 5, 4, 3, 2, 1);
        check.due("longest(0) of nine that fall", falling.longest(0), 1);
        check.due("longest(1) of nine that fall", falling.longest(1), 9);
        GrowingCorners twice = Fill.word(9, 9, 8, 8, 7, 7, 6, 6, 5, 5, 4, 4, 3, 3, 2, 2, 1, 1);
        check.due("longest(0) of each twice", twice.longest(0), 2);
        check.due("longest(1) of each twice", twice.longest(1), 9);
        GrowingCorners rising = Fill.word(1, 2, 3, 4, 5, 6, 7, 8, 9);
        check.due("longest(0) of nine that rise", rising.longest(0), 9);
        check.due("longest(1) of nine that rise", rising.longest(1), 1);
        GrowingCorners apart = Fill.word(5, 1, 6, 2, 7, 3);
        check.due("longest(0) of letters apart", apart.longest(0), 3);
        check.due("longest(1) of letters apart", apart.longest(1), 2);
    }

    private static void whatZeroAndOne() {
        check.says("longest: BAD");
        GrowingCorners x = Fill.word(1, 2);
        for (int what : new int[] {LEAST, -1, 2, 3, MOST}) {
            check.due("longest(" + what + ")", x.longest(what), BAD);
        }
    }

    private static void wordsOfEmptyBoxes() {
        check.says("as often as its WEIGHT tells (0 too): how many");
        GrowingCorners x = Fill.word(1, 2, 3);
        check.due("wordOf of no weights", x.wordOf(), 0);
        Fill.isTableau(check, x, 0, NOTHING);
        x.box(6, 6);
        x.weight(0, 5, 1);
        x.weight(5, 0, 1);
        check.due("wordOf of two places", x.wordOf(), 2);
        Fill.isTableau(check, x, 0, new int[][] {{1}, {6}});
        Fill.isTableau(check, x, 1, new int[][] {{1}, {2}});
    }

    private static void moreThanFortyLetters() {
        check.says("FULL: more than 40 letters");
        GrowingCorners x = Fill.box(new int[][] {{20}, {19}, {0}});
        check.due("wordOf of 39", x.wordOf(), 39);
        x.weight(2, 0, 1);
        check.due("wordOf of 40", x.wordOf(), 40);
        x.weight(2, 0, 2);
        check.due("wordOf of 41", x.wordOf(), FULL);
        check.due("THE WORD stays", x.row(0), 40);
        check.due("letter(1) of the full word", x.letter(1), FULL);
        x.clear();
        x.letter(8);
        x.letter(7);
        check.due("wordOf of 41 again", x.wordOf(), FULL);
        Fill.isTableau(check, x, 0, new int[][] {{7}, {8}});
        Fill.isTableau(check, x, 1, new int[][] {{1}, {2}});
        x.box(6, 6);
        for (int n = 0; n < 36; n++) {
            x.weight(n / 6, n % 6, 20);
        }
        check.due("wordOf of 720", x.wordOf(), FULL);
        check.due("clear", x.clear(), 2);
    }

    private static void rowByRowColumnByColumn() {
        check.says("row by row, in each column by column, the letter column and 1");
        GrowingCorners x = Fill.box(new int[][] {{0, 1}, {1, 0}, {0, 1}});
        check.due("wordOf, 2 1 2", x.wordOf(), 3);
        Fill.isTableau(check, x, 0, new int[][] {{1, 2}, {2}});
        Fill.isTableau(check, x, 1, new int[][] {{1, 3}, {2}});
        x.turn();
        check.due("wordOf turned, 2 1 3", x.wordOf(), 3);
        Fill.isTableau(check, x, 0, new int[][] {{1, 3}, {2}});
        GrowingCorners y = Fill.box(new int[][] {{1, 1, 1, 1, 1, 1}});
        check.due("wordOf of six columns", y.wordOf(), 6);
        Fill.isTableau(check, y, 0, new int[][] {{1, 2, 3, 4, 5, 6}});
        y.turn();
        check.due("wordOf of six rows", y.wordOf(), 6);
        Fill.isTableau(check, y, 0, new int[][] {{1, 1, 1, 1, 1, 1}});
    }

    private static void theWordInsteadOfTheOld() {
        check.says("THE WORD of THE BOX, not behind the old one");
        GrowingCorners x = manyOf(9, 40);
        x.weight(0, 0, 2);
        check.due("wordOf", x.wordOf(), 2);
        Fill.isTableau(check, x, 0, new int[][] {{1, 1}});
        Fill.isTableau(check, x, 1, new int[][] {{1, 2}});
        check.due("wordOf again", x.wordOf(), 2);
        check.due("letter(1)", x.letter(1), 3);
        check.due("the box stays", x.best(0, 0), 2);
    }

    private static void fiveHundredAndTwelveCalls() {
        check.says("An object is used for at most 512 calls");
        GrowingCorners x = new GrowingCorners();
        for (int n = 0; n < 508; n++) {
            int t = n % 42;
            check.due("call " + n, t < 40 ? x.letter(1 + n % 9) : t == 40 ? x.letter(1) : x.clear(),
                    t < 40 ? t + 1 : t == 40 ? FULL : 40);
        }
        check.due("call 509", x.clear(), 4);
        check.due("call 510", x.letter(5), 1);
        check.due("call 511", x.letter(5), 2);
        check.due("call 512", x.longest(0), 2);
    }
}
