import java.util.ArrayList;
import java.util.List;

/** The document once more, told another way: ways one by one, real rows with real casts, insertion for shapes. */
final class Model {
    int rows = 3;
    int columns = 3;
    int[][] box = new int[3][3];
    Object[] sheets = new Object[4];
    List<Integer> word = new ArrayList<>();
    List<List<List<Integer>>> laid = List.of(new ArrayList<>(), new ArrayList<>());

    /** P and Q of a word, as lists. */
    record Pair(List<List<Integer>> p, List<List<Integer>> q) {
    }

    long call(String name, int a, int b, int c, int d) {
        switch (name) {
            case "box": return newBox(a, b);
            case "weight": return weight(a, b, c);
            case "sheet": return sheet(a, b, c);
            case "drop": return drop(a);
            case "item": return item(a, b, c, d);
            case "weights": return weights(a, b, c);
            case "turn": return turn();
            case "best": return isPlace(a, b) ? heaviest(0, 0, a, b) : -1;
            case "between": return !isPlace(a, b) || !isPlace(c, d) ? -1 : heaviest(a, b, c, d);
            case "shape": return isIn(a, 0, rows) && isIn(b, 0, columns) && isIn(c, 0, 5) ? part(a, b, c) : -1;
            case "ways": return ways(a);
            case "sums": return isPlace(a, b) ? products(0, 0, a, b) : -1;
            case "served": return served(a, b);
            case "line": return line(a);
            case "letter": return letter(a);
            case "clear": return become(new ArrayList<>());
            case "row": return isIn(a, 0, 8) ? lengthOf(insertAll(word).p, a) : -1;
            case "place": return place(a, b, c);
            case "longest": return isIn(a, 0, 1) ? longest(a) : -1;
            case "lay": return lay(a, b, c);
            case "unlay": return unlay();
            case "back": return back();
            case "wordOf": return wordOf();
            case "chance": return isIn(a, 1, 3) && isIn(b, 1, 3) && isIn(c, 0, 8) ? ChancesTest.counted(a, b, c) : -1;
            default: throw new IllegalArgumentException(name);
        }
    }

    static boolean isIn(int x, int least, int most) {
        return least <= x && x <= most;
    }

    private boolean isPlace(int i, int j) {
        return isIn(i, 0, rows - 1) && isIn(j, 0, columns - 1);
    }

    private int newBox(int m, int n) {
        if (!isIn(m, 1, 6) || !isIn(n, 1, 6)) {
            return -1;
        }
        rows = m;
        columns = n;
        box = new int[m][n];
        return 1;
    }

    private int weight(int i, int j, int w) {
        if (!isPlace(i, j) || !isIn(w, 0, 20)) {
            return -1;
        }
        int was = box[i][j];
        box[i][j] = w;
        return was;
    }

    private int sheet(int s, int lane, int n) {
        if (!isIn(s, 0, 3) || !isIn(lane, 0, 1) || n > 36) {
            return -1;
        }
        try {
            sheets[s] = lane == 0 ? new int[n] : new long[n];
            return n;
        } catch (NegativeArraySizeException e) {
            return -14;
        }
    }

    private int drop(int s) {
        if (!isIn(s, 0, 3)) {
            return -1;
        }
        if (sheets[s] == null) {
            return -11;
        }
        int had = java.lang.reflect.Array.getLength(sheets[s]);
        sheets[s] = null;
        return had;
    }

    private int item(int s, int lane, int i, int v) {
        if (!isIn(s, 0, 3) || !isIn(lane, 0, 1)) {
            return -1;
        }
        try {
            if (lane == 0) {
                ((int[]) sheets[s])[i] = v;
            } else {
                ((long[]) sheets[s])[i] = v;
            }
            return 1;
        } catch (NullPointerException e) {
            return -11;
        } catch (ClassCastException e) {
            return -12;
        } catch (ArrayIndexOutOfBoundsException e) {
            return -13;
        }
    }

    private int weights(int s, int lane, int from) {
        if (!isIn(s, 0, 3) || !isIn(lane, 0, 1)) {
            return -1;
        }
        long[] taken = new long[rows * columns];
        try {
            for (int n = 0; n < taken.length; n++) {
                taken[n] = lane == 0 ? ((int[]) sheets[s])[from + n] : ((long[]) sheets[s])[from + n];
            }
        } catch (NullPointerException e) {
            return -11;
        } catch (ClassCastException e) {
            return -12;
        } catch (ArrayIndexOutOfBoundsException e) {
            return -13;
        }
        int sum = 0;
        for (long w : taken) {
            if (w < 0 || w > 20) {
                return -2;
            }
            sum += (int) w;
        }
        for (int n = 0; n < taken.length; n++) {
            box[n / columns][n % columns] = (int) taken[n];
        }
        return sum;
    }

    private int turn() {
        int[][] turned = new int[columns][rows];
        for (int i = 0; i < rows; i++) {
            for (int j = 0; j < columns; j++) {
                turned[j][i] = box[i][j];
            }
        }
        box = turned;
        int kept = rows;
        rows = columns;
        columns = kept;
        return 1;
    }

    /** Goes all ways; -4 where there is none. */
    private int heaviest(int i, int j, int c, int d) {
        if (i > c || j > d) {
            return -4;
        }
        if (i == c && j == d) {
            return box[i][j];
        }
        return box[i][j] + Math.max(heaviest(i + 1, j, c, d), heaviest(i, j + 1, c, d));
    }

    private long products(int i, int j, int c, int d) {
        if (i > c || j > d) {
            return 0;
        }
        if (i == c && j == d) {
            return box[i][j];
        }
        return box[i][j] * (products(i + 1, j, c, d) + products(i, j + 1, c, d));
    }

    /** The rules at the corners grow the shape of P of the word of the part of the box above and left of it. */
    private int part(int i, int j, int k) {
        return lengthOf(insertAll(letters(i, j)).p, k);
    }

    private int ways(int k) {
        if (!isIn(k, 1, 6)) {
            return -1;
        }
        int sum = 0;
        for (int n = 0; n < k; n++) {
            sum += part(rows, columns, n);
        }
        return sum;
    }

    private int served(int i, int t) {
        if (!isPlace(i, 0) || t < 0) {
            return -1;
        }
        int count = 0;
        while (count < columns && heaviest(0, 0, i, count) <= t) {
            count++;
        }
        return count;
    }

    private int line(int s) {
        List<Integer> places = new ArrayList<>();
        int i = 0;
        int j = 0;
        places.add(0);
        while (i < rows - 1 || j < columns - 1) {
            boolean down = j == columns - 1
                    || i < rows - 1 && heaviest(0, 0, i + 1, j) < heaviest(0, 0, i, j + 1);
            i += down ? 1 : 0;
            j += down ? 0 : 1;
            places.add(10 * i + j);
        }
        return isIn(s, 0, places.size() - 1) ? places.get(s) : -1;
    }

    private int letter(int x) {
        if (!isIn(x, 1, 9)) {
            return -1;
        }
        if (word.size() == 40) {
            return -3;
        }
        word.add(x);
        return word.size();
    }

    private int become(List<Integer> letters) {
        int had = word.size();
        word = letters;
        return had;
    }

    static Pair insertAll(List<Integer> letters) {
        Pair made = new Pair(new ArrayList<>(), new ArrayList<>());
        for (int t = 1; t <= letters.size(); t++) {
            insert(made, 0, letters.get(t - 1), t);
        }
        return made;
    }

    private static void insert(Pair made, int r, int x, int t) {
        if (r == made.p.size()) {
            made.p.add(new ArrayList<>());
            made.q.add(new ArrayList<>());
        }
        List<Integer> row = made.p.get(r);
        for (int c = 0; c < row.size(); c++) {
            if (row.get(c) > x) {
                insert(made, r + 1, row.set(c, x), t);
                return;
            }
        }
        row.add(x);
        made.q.get(r).add(t);
    }

    private static int lengthOf(List<List<Integer>> tableau, int r) {
        return r < tableau.size() ? tableau.get(r).size() : 0;
    }

    private int place(int which, int r, int c) {
        if (!isIn(which, 0, 1) || !isIn(r, 0, 8) || c < 0) {
            return -1;
        }
        Pair made = insertAll(word);
        return c < lengthOf(made.p, r) ? (which == 0 ? made.p : made.q).get(r).get(c) : -4;
    }

    private int longest(int what) {
        int[] ending = new int[word.size()];
        int most = 0;
        for (int t = 0; t < ending.length; t++) {
            for (int s = 0; s < t; s++) {
                boolean goesOn = what == 0 ? word.get(s) <= word.get(t) : word.get(s) > word.get(t);
                ending[t] = goesOn ? Math.max(ending[t], ending[s]) : ending[t];
            }
            ending[t]++;
            most = Math.max(most, ending[t]);
        }
        return most;
    }

    static int placesOf(List<List<Integer>> tableau) {
        int places = 0;
        for (List<Integer> row : tableau) {
            places += row.size();
        }
        return places;
    }

    private int lay(int which, int r, int v) {
        if (!isIn(which, 0, 1) || !isIn(v, 1, 40) || !isIn(r, 0, 8) || r > laid.get(which).size()) {
            return -1;
        }
        List<List<Integer>> to = laid.get(which);
        if (placesOf(to) == 40) {
            return -3;
        }
        if (r == to.size()) {
            to.add(new ArrayList<>());
        }
        to.get(r).add(v);
        return to.get(r).size();
    }

    private int unlay() {
        int had = placesOf(laid.get(0)) + placesOf(laid.get(1));
        laid.get(0).clear();
        laid.get(1).clear();
        return had;
    }

    /** What is laid is as told if, and only if, a word of letters 1 .. 9 makes it. */
    private int back() {
        List<Integer> read = undo(copy(laid.get(0)), copy(laid.get(1)));
        for (int x : read) {
            if (!isIn(x, 1, 9)) {
                return -2;
            }
        }
        Pair made = insertAll(read);
        if (!made.p.equals(laid.get(0)) || !made.q.equals(laid.get(1))) {
            return -2;
        }
        unlay();
        become(read);
        return read.size();
    }

    private static List<List<Integer>> copy(List<List<Integer>> tableau) {
        List<List<Integer>> made = new ArrayList<>();
        for (List<Integer> row : tableau) {
            made.add(new ArrayList<>(row));
        }
        return made;
    }

    /** Undoes insertions as far as it goes; of what no word makes, the word that it gives makes something else. */
    private static List<Integer> undo(List<List<Integer>> p, List<List<Integer>> q) {
        List<Integer> read = new ArrayList<>();
        for (int t = placesOf(q); t >= 1; t--) {
            int r = 0;
            while (r < q.size() && (q.get(r).isEmpty() || q.get(r).get(q.get(r).size() - 1) != t)) {
                r++;
            }
            if (r == q.size() || r >= p.size() || p.get(r).isEmpty()) {
                return read;
            }
            q.get(r).remove(q.get(r).size() - 1);
            int x = p.get(r).remove(p.get(r).size() - 1);
            for (int up = r - 1; up >= 0; up--) {
                for (int c = p.get(up).size() - 1; c >= 0; c--) {
                    if (p.get(up).get(c) < x) {
                        x = p.get(up).set(c, x);
                        break;
                    }
                }
            }
            read.add(0, x);
        }
        return read;
    }

    private List<Integer> letters(int m, int n) {
        List<Integer> letters = new ArrayList<>();
        for (int i = 0; i < m; i++) {
            for (int j = 0; j < n; j++) {
                for (int w = 0; w < box[i][j]; w++) {
                    letters.add(j + 1);
                }
            }
        }
        return letters;
    }

    private int wordOf() {
        List<Integer> letters = letters(rows, columns);
        if (letters.size() > 40) {
            return -3;
        }
        become(letters);
        return letters.size();
    }
}
