import java.util.ArrayList;
import java.util.List;
import java.util.Random;

/** Promises 1 to 24 in runs of up to 512 calls, drawn from a fixed seed, against the Model. */
public final class RandomRunsTest {
    private static final String[] BOX = {"box", "weight", "sheet", "drop", "item", "weights", "turn", "best",
        "between", "shape", "ways", "sums", "served", "line", "wordOf", "row", "place"};
    private static final String[] WORDS = {"letter", "letter", "letter", "clear", "row", "place", "longest", "lay",
        "unlay", "back", "wordOf", "weight"};
    private static final int[] FAR = {Integer.MIN_VALUE, Integer.MAX_VALUE, -1, 36, 37, 40, 41, 1 << 30};
    private static final int CALLS = 512;

    private final Check check;
    private final Random random;
    private final GrowingCorners x = new GrowingCorners();
    private final Model model = new Model();
    private int calls = 0;

    private RandomRunsTest(Check check, long seed) {
        this.check = check;
        random = new Random(seed);
    }

    public static void main(String[] args) {
        Check check = new Check();
        for (int run = 0; run < 300; run++) {
            new RandomRunsTest(check, run).run(run);
        }
        check.end();
    }

    private void run(int kind) {
        if (kind % 3 == 0) {
            both("box", draw(1, 6), draw(1, 6), 0, 0);
        }
        while (calls < CALLS) {
            String[] names = kind % 2 == 0 ? BOX : WORDS;
            String name = names[random.nextInt(names.length)];
            int[] a = arguments(name);
            both(name, a[0], a[1], a[2], a[3]);
            if (kind % 2 == 0 && random.nextInt(40) == 0) {
                fillSheetAndBox();
            }
            if (kind % 2 == 1 && random.nextInt(60) == 0) {
                layAWord();
            }
        }
    }

    private int draw(int least, int most) {
        if (random.nextInt(120) == 0) {
            return FAR[random.nextInt(FAR.length)];
        }
        return least + random.nextInt(most - least + 1);
    }

    private int[] arguments(String name) {
        int m = model.rows;
        int n = model.columns;
        switch (name) {
            case "box": return random.nextInt(6) == 0 ? new int[] {draw(0, 7), draw(0, 7), 0, 0} : new int[4];
            case "weight": return new int[] {draw(0, m), draw(0, n), draw(-1, 6), 0};
            case "sheet": return new int[] {draw(0, 4), draw(0, 2), draw(-2, 37), 0};
            case "drop": return new int[] {draw(-1, 4), 0, 0, 0};
            case "item": return new int[] {draw(0, 3), draw(0, 1), draw(-1, 36), draw(-1, 21)};
            case "weights": return new int[] {draw(0, 3), draw(0, 1), draw(-1, 20), 0};
            case "best":
            case "sums": return new int[] {draw(-1, m), draw(-1, n), 0, 0};
            case "between": return new int[] {draw(-1, m), draw(-1, n), draw(0, m), draw(0, n)};
            case "shape": return new int[] {draw(-1, m + 1), draw(-1, n + 1), draw(-1, 6), 0};
            case "ways": return new int[] {draw(0, 7), 0, 0, 0};
            case "served": return new int[] {draw(-1, m), draw(-1, 60), 0, 0};
            case "line": return new int[] {draw(-1, m + n), 0, 0, 0};
            case "letter": return new int[] {draw(0, 10), 0, 0, 0};
            case "row": return new int[] {draw(-1, 9), 0, 0, 0};
            case "place": return new int[] {draw(-1, 2), draw(-1, 9), draw(-1, 12), 0};
            case "longest": return new int[] {draw(-1, 2), 0, 0, 0};
            case "lay": return new int[] {draw(-1, 2), draw(-1, 9), draw(0, 41), 0};
            default: return new int[4];
        }
    }

    private void fillSheetAndBox() {
        int lane = random.nextInt(2);
        int size = model.rows * model.columns + random.nextInt(2);
        int most = random.nextBoolean() ? 2 : 20;
        both("sheet", 1, lane, size, 0);
        for (int i = 0; i < size; i++) {
            both("item", 1, lane, i, random.nextInt(most + 1));
        }
        both("weights", 1, lane, random.nextInt(2), 0);
        both("wordOf", 0, 0, 0, 0);
    }

    /** Lays P and Q of some word, now and then with one number wrong, and reads them back. */
    private void layAWord() {
        List<Integer> letters = new ArrayList<>();
        int count = random.nextInt(41);
        for (int t = 0; t < count; t++) {
            letters.add(1 + random.nextInt(9));
        }
        Model.Pair made = Model.insertAll(letters);
        both("unlay", 0, 0, 0, 0);
        int wrongAt = random.nextBoolean() ? random.nextInt(2 * count + 1) : -1;
        int at = 0;
        for (int which = 0; which < 2; which++) {
            List<List<Integer>> rows = which == 0 ? made.p() : made.q();
            for (int r = 0; r < rows.size(); r++) {
                for (int v : rows.get(r)) {
                    both("lay", which, r, at == wrongAt ? 1 + random.nextInt(12) : v, 0);
                    at++;
                }
            }
        }
        both("back", 0, 0, 0, 0);
        for (int r = 0; r < 9; r++) {
            both("row", r, 0, 0, 0);
            both("place", 0, r, random.nextInt(3), 0);
            both("place", 1, r, random.nextInt(3), 0);
        }
    }

    private void both(String name, int a, int b, int c, int d) {
        if (calls < CALLS) {
            calls++;
            check.due(name + " of " + a + ", " + b + ", " + c + ", " + d + " as call " + calls,
                    Calls.call(x, name, a, b, c, d), model.call(name, a, b, c, d));
        }
    }
}
