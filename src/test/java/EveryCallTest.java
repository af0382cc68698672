import java.util.ArrayList;
import java.util.Arrays;
import java.util.List;
import java.util.function.Consumer;

/**
 * Every call, with every mix of numbers at and beside the edges, in three states: the answer is the Model's, what is
 * refused changes nothing, and what is not refused changes nothing but what its promise names.
 */
public final class EveryCallTest {
    private static final int[] EDGES = {Integer.MIN_VALUE, -1, 0, 1, 2, 3, 4, 5, 6, 7, Integer.MAX_VALUE};
    private static final int[] FEWER = {Integer.MIN_VALUE, -1, 0, 1, 2, 3, 4, 6, Integer.MAX_VALUE};
    private static final int[] LAST = {Integer.MIN_VALUE, -1, 0, 1, 2, 6, 8, 9, 10, 11, 20, 21, 35, 36, 37, 39, 40, 41,
        42, 220, Integer.MAX_VALUE - 35, Integer.MAX_VALUE};
    private static final int MOST_CALLS = 512;

    private static final Check check = new Check();
    private final Consumer<EveryCallTest> state;
    private final ReadOut untouched;
    private GrowingCorners x;
    private Model model;
    private int calls;

    private EveryCallTest(Consumer<EveryCallTest> state) {
        this.state = state;
        prepare();
        untouched = new ReadOut(x);
        check.holds("no object is used for more than 512 calls", calls + 1 + untouched.calls <= MOST_CALLS);
    }

    public static void main(String[] args) {
        new EveryCallTest(test -> { }).everyCall("a new object");
        new EveryCallTest(EveryCallTest::someOfAll).everyCall("some of all");
        new EveryCallTest(EveryCallTest::fullOfAll).everyCall("full of all");
        check.end();
    }

    private void prepare() {
        x = new GrowingCorners();
        model = new Model();
        calls = 0;
        state.accept(this);
    }

    private void both(String name, int... a) {
        int[] four = Arrays.copyOf(a, 4);
        calls++;
        check.due(name + " to begin with", Calls.call(x, name, four[0], four[1], four[2], four[3]),
                model.call(name, four[0], four[1], four[2], four[3]));
    }

    /** A box that is no square, a sheet missing, one empty, one of each lane; what is laid can be read back. */
    private void someOfAll() {
        both("box", 2, 4);
        for (int j = 0; j < 4; j++) {
            both("weight", 0, j, 3 + j);
            both("weight", 1, j, 7 - 2 * j);
        }
        both("sheet", 1, 0, 0);
        both("sheet", 2, 1, 10);
        both("item", 2, 1, 9, 20);
        both("item", 2, 1, 0, -1);
        both("sheet", 3, 0, 36);
        both("item", 3, 0, 35, 21);
        both("item", 3, 0, 8, 1);
        for (int letter : new int[] {5, 2, 9, 2, 7, 1, 1, 8}) {
            both("letter", letter);
        }
        for (int[] v : new int[][] {{0, 1, 1}, {0, 1, 2}, {0, 4, 4}, {1, 2, 3}, {1, 2, 5}, {2, 9, 6}}) {
            both("lay", 0, v[0], v[1]);
            both("lay", 1, v[0], v[2]);
        }
    }

    /** The greatest box, full rows, a full word, and as much laid as may be: P of nine rows, which is not as told. */
    private void fullOfAll() {
        both("box", 6, 6);
        both("weight", 0, 5, 20);
        both("weight", 2, 0, 20);
        both("wordOf");
        both("sheet", 0, 0, 36);
        for (int i = 0; i < 36; i++) {
            both("item", 0, 0, i, 20);
        }
        both("weights", 0, 0, 0);
        for (int s = 1; s < 4; s++) {
            both("sheet", s, s % 2, 36);
        }
        for (int n = 0; n < 40; n++) {
            both("lay", 0, n % 9, 9);
            both("lay", 1, n % 4, n + 1);
        }
    }

    private void everyCall(String where) {
        for (String name : Calls.NAMES) {
            int count = Calls.argumentsOf(name);
            int[] last = count > 0 ? LAST : new int[1];
            int[] first = count == 4 ? FEWER : EDGES;
            for (int a : count > 1 ? first : last) {
                for (int b : count > 2 ? first : count == 2 ? last : new int[1]) {
                    for (int c : count > 3 ? first : count == 3 ? last : new int[1]) {
                        for (int d : count == 4 ? last : new int[1]) {
                            oneCall(where, name, a, b, c, d);
                        }
                    }
                }
            }
        }
    }

    private void oneCall(String where, String name, int a, int b, int c, int d) {
        prepare();
        String told = name + " of " + a + ", " + b + ", " + c + ", " + d + " in " + where;
        long got = Calls.call(x, name, a, b, c, d);
        check.due(told, got, model.call(name, a, b, c, d));
        String may = got < 0 ? "" : mayChange(name);
        ReadOut after = new ReadOut(x);
        check.holds(told + " leaves the box", may.contains("box") || after.box.equals(untouched.box));
        check.holds(told + " leaves the sheets", may.contains("sheets") || after.sheets.equals(untouched.sheets));
        check.holds(told + " leaves the word", may.contains("word") || after.word.equals(untouched.word));
        check.holds(told + " leaves what is laid", may.contains("laid") || after.laid.equals(untouched.laid));
    }

    private static String mayChange(String name) {
        switch (name) {
            case "box":
            case "weight":
            case "weights":
            case "turn": return "box";
            case "sheet":
            case "drop":
            case "item": return "sheets";
            case "letter":
            case "clear":
            case "wordOf": return "word";
            case "lay":
            case "unlay": return "laid";
            case "back": return "word, laid";
            default: return "";
        }
    }

    /** All that can be seen of an object; to see it spends the object. */
    private static final class ReadOut {
        private final GrowingCorners x;
        private final List<Long> box = new ArrayList<>();
        private final List<Long> sheets = new ArrayList<>();
        private final List<Long> word = new ArrayList<>();
        private final List<Long> laid = new ArrayList<>();
        private int calls = 0;

        ReadOut(GrowingCorners x) {
            this.x = x;
            readBox();
            readWord(word);
            readLaid();
            readSheets();
        }

        private long see(List<Long> to, String name, int... a) {
            calls++;
            int[] four = Arrays.copyOf(a, 4);
            long got = Calls.call(x, name, four[0], four[1], four[2], four[3]);
            to.add(got);
            return got;
        }

        private void readBox() {
            int i = 0;
            while (see(box, "between", i, 0, i, 0) >= 0) {
                int j = 1;
                while (see(box, "between", i, j, i, j) >= 0) {
                    j++;
                }
                i++;
            }
        }

        private void readWord(List<Long> to) {
            for (int r = 0; r < 9; r++) {
                long length = see(to, "row", r);
                for (int c = 0; c < length; c++) {
                    see(to, "place", 0, r, c);
                    see(to, "place", 1, r, c);
                }
            }
        }

        /** What is not as told cannot be read; its rows' lengths show themselves where one more is laid. */
        private void readLaid() {
            if (see(laid, "back") >= 0) {
                readWord(laid);
            } else {
                for (int r = 0; r < 9; r++) {
                    see(laid, "lay", 0, r, 1);
                    see(laid, "lay", 1, r, 1);
                }
            }
            see(laid, "unlay");
        }

        /** In a box of one place each item can be taken alone. */
        private void readSheets() {
            x.box(1, 1);
            calls++;
            for (int s = 0; s < 4; s++) {
                int lane = see(sheets, "weights", s, 0, 0) == GrowingCorners.CAST ? 1 : 0;
                for (int i = 0; see(sheets, "weights", s, lane, i) > GrowingCorners.NULL; i++) {
                    sheets.add((long) i);
                }
                see(sheets, "drop", s);
            }
        }
    }
}
