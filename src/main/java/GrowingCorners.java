import java.util.Arrays;

/** Boxes of weights, words and their tableaux, and chances of a best way: ../shared/DOC.md tells all of it. */
public final class GrowingCorners {
    public static final int BAD = -1, NOT = -2, FULL = -3, NONE = -4, NULL = -11, CAST = -12, INDEX = -13, SIZE = -14;

    private static final int MOST_SIDE = 6;
    private static final int MOST_WEIGHT = 20;
    private static final int PARTS = 6;
    private static final int SHEETS = 4;
    private static final int LANES = 2;
    private static final int MOST_ITEMS = 36;
    private static final int MOST_LETTER = 9;
    private static final int MOST_ROWS = 9;
    private static final int MOST_PLACES = 40;
    private static final int MOST_CHANCE_SIDE = 3;
    private static final int MOST_CHANCE_BEST = 8;
    private static final int AS_TOLD = 1;

    private final Grid grid;
    private final Sheet[] sheets;
    private final Word word;
    private final Tableau laidP;
    private final Tableau laidQ;
    /** Letters of a word that is being made: THE WORD itself must stay until all of them are known. */
    private final int[] draft;

    public GrowingCorners() {
        grid = new Grid();
        sheets = new Sheet[SHEETS];
        for (int s = 0; s < SHEETS; s++) {
            sheets[s] = new Sheet();
        }
        word = new Word();
        laidP = new Tableau();
        laidQ = new Tableau();
        draft = new int[MOST_PLACES];
    }

    // ---- 1 the box

    public int box(int m, int n) {
        if (!isWithin(m, 1, MOST_SIDE) || !isWithin(n, 1, MOST_SIDE)) {
            return BAD;
        }
        grid.reset(m, n);
        return 1;
    }

    public int weight(int i, int j, int w) {
        if (!grid.hasPlace(i, j) || !isWeight(w)) {
            return BAD;
        }
        return grid.exchange(i, j, w);
    }

    public int sheet(int sheet, int lane, int n) {
        if (!isSheet(sheet) || !isLane(lane) || n > MOST_ITEMS) {
            return BAD;
        }
        if (n < 0) {
            return SIZE;
        }
        sheets[sheet].renew(lane, n);
        return n;
    }

    public int drop(int sheet) {
        if (!isSheet(sheet)) {
            return BAD;
        }
        if (sheets[sheet].isMissing()) {
            return NULL;
        }
        return sheets[sheet].vanish();
    }

    public int item(int sheet, int lane, int i, int v) {
        int found = lookAtItems(sheet, lane, i, 1);
        if (found != AS_TOLD) {
            return found;
        }
        sheets[sheet].setItem(i, v);
        return 1;
    }

    public int weights(int sheet, int lane, int from) {
        int found = lookAtItems(sheet, lane, from, grid.placeCount());
        if (found != AS_TOLD) {
            return found;
        }
        Sheet source = sheets[sheet];
        if (!source.areWeights(from, grid.placeCount())) {
            return NOT;
        }
        grid.takeFrom(source, from);
        return grid.total();
    }

    public int turn() {
        grid.transpose();
        return 1;
    }

    public int best(int i, int j) {
        if (!grid.hasPlace(i, j)) {
            return BAD;
        }
        return grid.heaviest(0, 0, i, j);
    }

    public int between(int a, int b, int c, int d) {
        if (!grid.hasPlace(a, b) || !grid.hasPlace(c, d)) {
            return BAD;
        }
        if (c < a || d < b) {
            return NONE;
        }
        return grid.heaviest(a, b, c, d);
    }

    public int shape(int i, int j, int k) {
        if (!grid.hasCorner(i, j) || !isWithin(k, 0, PARTS - 1)) {
            return BAD;
        }
        grid.growShapes();
        return grid.partAt(i, j, k);
    }

    public int ways(int k) {
        if (!isWithin(k, 1, PARTS)) {
            return BAD;
        }
        grid.growShapes();
        return grid.firstPartsAtEnd(k);
    }

    public long sums(int i, int j) {
        if (!grid.hasPlace(i, j)) {
            return BAD;
        }
        return grid.productSum(i, j);
    }

    public int served(int i, int t) {
        if (!grid.hasPlace(i, 0) || t < 0) {
            return BAD;
        }
        return grid.countServed(i, t);
    }

    public int line(int s) {
        if (!isWithin(s, 0, grid.lastStep())) {
            return BAD;
        }
        return grid.placeOnLine(s);
    }

    // ---- 2 words

    public int letter(int x) {
        if (!isWithin(x, 1, MOST_LETTER)) {
            return BAD;
        }
        if (word.letterCount() >= MOST_PLACES) {
            return FULL;
        }
        word.takeLetter(x);
        return word.letterCount();
    }

    public int clear() {
        int had = word.letterCount();
        word.forget();
        return had;
    }

    public int row(int r) {
        if (!isWithin(r, 0, MOST_ROWS - 1)) {
            return BAD;
        }
        return word.tableau(0).lengthOf(r);
    }

    public int place(int which, int r, int c) {
        if (!isWhich(which) || !isWithin(r, 0, MOST_ROWS - 1) || c < 0) {
            return BAD;
        }
        Tableau asked = word.tableau(which);
        return asked.has(r, c) ? asked.at(r, c) : NONE;
    }

    public int longest(int what) {
        if (!isWhich(what)) {
            return BAD;
        }
        // Schensted: P's first row is as long as the longest that does not fall, its column as the one that falls.
        Tableau p = word.tableau(0);
        return what == 0 ? p.lengthOf(0) : p.rowCount();
    }

    public int lay(int which, int r, int v) {
        if (!isWhich(which) || !isWithin(v, 1, MOST_PLACES)) {
            return BAD;
        }
        Tableau laid = which == 0 ? laidP : laidQ;
        if (!isWithin(r, 0, Math.min(laid.rowCount(), MOST_ROWS - 1))) {
            return BAD;
        }
        if (laid.placeCount() >= MOST_PLACES) {
            return FULL;
        }
        laid.append(r, v);
        return laid.lengthOf(r);
    }

    public int unlay() {
        int had = laidP.placeCount() + laidQ.placeCount();
        laidP.empty();
        laidQ.empty();
        return had;
    }

    public int back() {
        if (!laidIsAsTold()) {
            return NOT;
        }
        int letters = laidP.placeCount();
        readLaidIntoDraft(letters);
        laidP.empty();
        laidQ.empty();
        word.become(draft, letters);
        return letters;
    }

    public int wordOf() {
        int letters = grid.total();
        if (letters > MOST_PLACES) {
            return FULL;
        }
        grid.spell(draft);
        word.become(draft, letters);
        return letters;
    }

    // ---- 3 chances

    public long chance(int m, int n, int k) {
        if (!isWithin(m, 1, MOST_CHANCE_SIDE) || !isWithin(n, 1, MOST_CHANCE_SIDE)
                || !isWithin(k, 0, MOST_CHANCE_BEST)) {
            return BAD;
        }
        return countByShapes(m, n, k);
    }

    // ---- what numbers may be

    private static boolean isWithin(int number, int least, int most) {
        return number >= least && number <= most;
    }

    private static boolean isWeight(long number) {
        return number >= 0 && number <= MOST_WEIGHT;
    }

    private static boolean isSheet(int number) {
        return isWithin(number, 0, SHEETS - 1);
    }

    private static boolean isLane(int number) {
        return isWithin(number, 0, LANES - 1);
    }

    private static boolean isWhich(int number) {
        return isWithin(number, 0, 1);
    }

    private int lookAtItems(int sheet, int lane, int from, int count) {
        if (!isSheet(sheet) || !isLane(lane)) {
            return BAD;
        }
        Sheet asked = sheets[sheet];
        if (asked.isMissing()) {
            return NULL;
        }
        if (!asked.isOf(lane)) {
            return CAST;
        }
        return asked.reaches(from, count) ? AS_TOLD : INDEX;
    }

    // ---- what is laid

    private boolean laidIsAsTold() {
        return laidP.hasShapeOf(laidQ) && laidP.isStaircase()
                && laidP.rises(0) && laidP.isBelow(MOST_LETTER + 1)
                && laidQ.rises(1) && laidQ.hasEachOnce();
    }

    private void readLaidIntoDraft(int letters) {
        for (int t = letters; t >= 1; t--) {
            int r = laidQ.rowEndingIn(t);
            laidQ.takeLast(r);
            draft[t - 1] = laidP.takeOut(r);
        }
    }

    // ---- counts of shapes

    /**
     * Weights whose last shape is a, b, c pair with two tableaux of that shape, of m and of n letters, and have
     * the chance one half to the power m n + a + b + c: so shapes with a at most k are counted, not weights.
     */
    private static long countByShapes(int m, int n, int k) {
        int parts = Math.min(m, n);
        long count = 0;
        for (int a = 0; a <= k; a++) {
            int mostB = parts > 1 ? a : 0;
            for (int b = 0; b <= mostB; b++) {
                int mostC = parts > 2 ? b : 0;
                for (int c = 0; c <= mostC; c++) {
                    long pairs = tableauxOf(m, a, b, c) * tableauxOf(n, a, b, c);
                    count += pairs << (k * parts - a - b - c);
                }
            }
        }
        return count;
    }

    /** How many tableaux of rows a, b, c have no letter but 1 .. letters (Weyl's product of differences). */
    private static long tableauxOf(int letters, int a, int b, int c) {
        if (letters == 1) {
            return 1;
        }
        if (letters == 2) {
            return a - b + 1;
        }
        return (long) (a - b + 1) * (b - c + 1) * (a - c + 2) / 2;
    }

    /** THE BOX. Its methods take places and corners that the caller has looked at. */
    private static final class Grid {
        private static final int FIRST_SIDE = 3;
        private static final int CORNERS = MOST_SIDE + 1;

        private int rows;
        private int columns;
        private final int[][] cells;
        private final int[][] greatest;
        private final long[][] products;
        /** A row of parts for each corner; those with i or j 0 are never written, so they stay 0. */
        private final int[][] parts;

        Grid() {
            rows = FIRST_SIDE;
            columns = FIRST_SIDE;
            cells = new int[MOST_SIDE][MOST_SIDE];
            greatest = new int[MOST_SIDE][MOST_SIDE];
            products = new long[MOST_SIDE][MOST_SIDE];
            parts = new int[CORNERS * CORNERS][PARTS];
        }

        void reset(int m, int n) {
            rows = m;
            columns = n;
            for (int i = 0; i < MOST_SIDE; i++) {
                Arrays.fill(cells[i], 0);
            }
        }

        boolean hasPlace(int i, int j) {
            return isWithin(i, 0, rows - 1) && isWithin(j, 0, columns - 1);
        }

        boolean hasCorner(int i, int j) {
            return isWithin(i, 0, rows) && isWithin(j, 0, columns);
        }

        int placeCount() {
            return rows * columns;
        }

        int lastStep() {
            return rows + columns - 2;
        }

        int exchange(int i, int j, int w) {
            int was = cells[i][j];
            cells[i][j] = w;
            return was;
        }

        void takeFrom(Sheet source, int from) {
            int next = from;
            for (int i = 0; i < rows; i++) {
                for (int j = 0; j < columns; j++) {
                    cells[i][j] = (int) source.itemAt(next);
                    next++;
                }
            }
        }

        int total() {
            int total = 0;
            for (int i = 0; i < rows; i++) {
                for (int j = 0; j < columns; j++) {
                    total += cells[i][j];
                }
            }
            return total;
        }

        void transpose() {
            for (int i = 0; i < MOST_SIDE; i++) {
                for (int j = 0; j < i; j++) {
                    int kept = cells[i][j];
                    cells[i][j] = cells[j][i];
                    cells[j][i] = kept;
                }
            }
            int kept = rows;
            rows = columns;
            columns = kept;
        }

        /** Leaves in greatest what the greatest ways from (a, b) to all places up to (c, d) weigh. */
        int heaviest(int a, int b, int c, int d) {
            for (int i = a; i <= c; i++) {
                for (int j = b; j <= d; j++) {
                    int fromAbove = i > a ? greatest[i - 1][j] : 0;
                    int fromLeft = j > b ? greatest[i][j - 1] : 0;
                    greatest[i][j] = cells[i][j] + Math.max(fromAbove, fromLeft);
                }
            }
            return greatest[c][d];
        }

        void growShapes() {
            for (int i = 1; i <= rows; i++) {
                for (int j = 1; j <= columns; j++) {
                    growCorner(i, j);
                }
            }
        }

        private void growCorner(int i, int j) {
            int[] p = parts[cornerNumber(i - 1, j - 1)];
            int[] a = parts[cornerNumber(i - 1, j)];
            int[] b = parts[cornerNumber(i, j - 1)];
            int[] grown = parts[cornerNumber(i, j)];
            grown[0] = Math.max(a[0], b[0]) + cells[i - 1][j - 1];
            for (int k = 1; k < PARTS; k++) {
                grown[k] = Math.max(a[k], b[k]) + Math.min(a[k - 1], b[k - 1]) - p[k - 1];
            }
        }

        private static int cornerNumber(int i, int j) {
            return i * CORNERS + j;
        }

        int partAt(int i, int j, int k) {
            return parts[cornerNumber(i, j)][k];
        }

        int firstPartsAtEnd(int count) {
            int together = 0;
            for (int k = 0; k < count; k++) {
                together += partAt(rows, columns, k);
            }
            return together;
        }

        long productSum(int lastRow, int lastColumn) {
            for (int i = 0; i <= lastRow; i++) {
                for (int j = 0; j <= lastColumn; j++) {
                    products[i][j] = cells[i][j] * productsBefore(i, j);
                }
            }
            return products[lastRow][lastColumn];
        }

        private long productsBefore(int i, int j) {
            if (i == 0 && j == 0) {
                return 1;
            }
            long fromAbove = i > 0 ? products[i - 1][j] : 0;
            long fromLeft = j > 0 ? products[i][j - 1] : 0;
            return fromAbove + fromLeft;
        }

        int countServed(int desk, int time) {
            heaviest(0, 0, desk, columns - 1);
            int count = 0;
            for (int j = 0; j < columns; j++) {
                if (greatest[desk][j] <= time) {
                    count++;
                }
            }
            return count;
        }

        int placeOnLine(int s) {
            heaviest(0, 0, rows - 1, columns - 1);
            int i = 0;
            int j = 0;
            for (int step = 0; step < s; step++) {
                if (lineGoesDown(i, j)) {
                    i++;
                } else {
                    j++;
                }
            }
            return 10 * i + j;
        }

        private boolean lineGoesDown(int i, int j) {
            if (!hasPlace(i + 1, j)) {
                return false;
            }
            if (!hasPlace(i, j + 1)) {
                return true;
            }
            return greatest[i + 1][j] < greatest[i][j + 1];
        }

        void spell(int[] letters) {
            int next = 0;
            for (int i = 0; i < rows; i++) {
                for (int j = 0; j < columns; j++) {
                    for (int n = 0; n < cells[i][j] && next < letters.length; n++) {
                        letters[next] = j + 1;
                        next++;
                    }
                }
            }
        }
    }

    /** A SHEET. Both lanes keep their items as longs, so that one row, made once, serves every new row. */
    private static final class Sheet {
        private static final int NO_LANE = -1;

        private final long[] items;
        private int lane;
        private int size;

        Sheet() {
            items = new long[MOST_ITEMS];
            lane = NO_LANE;
            size = 0;
        }

        boolean isMissing() {
            return lane == NO_LANE;
        }

        boolean isOf(int asked) {
            return lane == asked;
        }

        boolean reaches(int from, int count) {
            return from >= 0 && from <= size - count;
        }

        void renew(int newLane, int n) {
            Arrays.fill(items, 0L);
            lane = newLane;
            size = n;
        }

        int vanish() {
            int had = size;
            lane = NO_LANE;
            size = 0;
            return had;
        }

        void setItem(int i, int v) {
            items[i] = v;
        }

        long itemAt(int i) {
            return items[i];
        }

        boolean areWeights(int from, int count) {
            for (int i = from; i < from + count; i++) {
                if (!isWeight(items[i])) {
                    return false;
                }
            }
            return true;
        }
    }

    /** THE WORD with its P and Q, which grow with every letter. */
    private static final class Word {
        private final Tableau p;
        private final Tableau q;

        Word() {
            p = new Tableau();
            q = new Tableau();
        }

        int letterCount() {
            return p.placeCount();
        }

        Tableau tableau(int which) {
            return which == 0 ? p : q;
        }

        void forget() {
            p.empty();
            q.empty();
        }

        void become(int[] letters, int count) {
            forget();
            for (int t = 0; t < count; t++) {
                takeLetter(letters[t]);
            }
        }

        void takeLetter(int x) {
            int grownRow = p.insert(x);
            q.append(grownRow, letterCount());
        }
    }

    /** Rows of numbers. A row that is not there has length 0. */
    private static final class Tableau {
        private final int[][] numbers;
        private final int[] lengths;
        private int rows;
        private int places;

        Tableau() {
            numbers = new int[MOST_ROWS][MOST_PLACES];
            lengths = new int[MOST_ROWS];
            rows = 0;
            places = 0;
        }

        int rowCount() {
            return rows;
        }

        int placeCount() {
            return places;
        }

        int lengthOf(int r) {
            return r >= 0 && r < MOST_ROWS ? lengths[r] : 0;
        }

        boolean has(int r, int c) {
            return c >= 0 && c < lengthOf(r);
        }

        int at(int r, int c) {
            return has(r, c) ? numbers[r][c] : 0;
        }

        void empty() {
            Arrays.fill(lengths, 0);
            rows = 0;
            places = 0;
        }

        void append(int r, int v) {
            if (!isWithin(r, 0, MOST_ROWS - 1) || places >= MOST_PLACES) {
                return;
            }
            numbers[r][lengths[r]] = v;
            lengths[r]++;
            places++;
            rows = Math.max(rows, r + 1);
        }

        int takeLast(int r) {
            int c = lengthOf(r) - 1;
            if (c < 0) {
                return 0;
            }
            lengths[r] = c;
            places--;
            if (c == 0 && r == rows - 1) {
                rows--;
            }
            return numbers[r][c];
        }

        private int exchange(int r, int c, int v) {
            if (!has(r, c)) {
                return v;
            }
            int was = numbers[r][c];
            numbers[r][c] = v;
            return was;
        }

        /** The row that grew. Columns rise and letters are 1 .. 9, so there are rows enough for every letter. */
        int insert(int x) {
            int carried = x;
            for (int r = 0; r < MOST_ROWS; r++) {
                int c = firstGreater(r, carried);
                if (!has(r, c)) {
                    append(r, carried);
                    return r;
                }
                carried = exchange(r, c, carried);
            }
            return MOST_ROWS;
        }

        private int firstGreater(int r, int x) {
            int length = lengthOf(r);
            for (int c = 0; c < length; c++) {
                if (numbers[r][c] > x) {
                    return c;
                }
            }
            return length;
        }

        /** Undoes the insert that made row r grow: the letter that had been inserted. */
        int takeOut(int r) {
            int carried = takeLast(r);
            for (int above = r - 1; above >= 0; above--) {
                carried = exchange(above, lastLess(above, carried), carried);
            }
            return carried;
        }

        private int lastLess(int r, int x) {
            int c = lengthOf(r) - 1;
            while (c >= 0 && numbers[r][c] >= x) {
                c--;
            }
            return c;
        }

        int rowEndingIn(int v) {
            for (int r = 0; r < rows; r++) {
                if (at(r, lengths[r] - 1) == v) {
                    return r;
                }
            }
            return 0;
        }

        boolean hasShapeOf(Tableau other) {
            for (int r = 0; r < MOST_ROWS; r++) {
                if (lengths[r] != other.lengthOf(r)) {
                    return false;
                }
            }
            return true;
        }

        boolean isStaircase() {
            for (int r = 1; r < rows; r++) {
                if (lengths[r] > lengths[r - 1]) {
                    return false;
                }
            }
            return true;
        }

        /** Whether each number is at least that step above its left neighbour, and above the one over it. */
        boolean rises(int step) {
            for (int r = 0; r < rows; r++) {
                for (int c = 0; c < lengths[r]; c++) {
                    if (c > 0 && numbers[r][c] < numbers[r][c - 1] + step) {
                        return false;
                    }
                    if (r > 0 && numbers[r][c] <= at(r - 1, c)) {
                        return false;
                    }
                }
            }
            return true;
        }

        boolean isBelow(int bound) {
            for (int r = 0; r < rows; r++) {
                for (int c = 0; c < lengths[r]; c++) {
                    if (numbers[r][c] >= bound) {
                        return false;
                    }
                }
            }
            return true;
        }

        /** As many numbers as there are places, 1 .. 40 each: so each is there once if all of them are there. */
        boolean hasEachOnce() {
            long seen = 0;
            for (int r = 0; r < rows; r++) {
                for (int c = 0; c < lengths[r]; c++) {
                    seen |= 1L << (numbers[r][c] - 1);
                }
            }
            return seen == (1L << places) - 1;
        }
    }
}
