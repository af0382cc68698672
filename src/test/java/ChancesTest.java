import java.math.BigInteger;
import java.util.Arrays;
import java.util.HashMap;
import java.util.List;
import java.util.Map;

/** Promise 25 chance: against a count of all weights, place by place, that knows nothing of shapes. */
public final class ChancesTest {
    private static final Check check = new Check();

    public static void main(String[] args) {
        allChances();
        sidesFromOneToThree();
        bestsFromZeroToEight();
        bestOfNothing();
        onePlace();
        oneRow();
        fourPlaces();
        rowsAndColumnsAlike();
        noStateIsAsked();
        check.end();
    }

    private static void allChances() {
        check.says("C(m, n, k)");
        GrowingCorners x = new GrowingCorners();
        for (int m = 1; m <= 3; m++) {
            for (int n = 1; n <= 3; n++) {
                for (int k = 0; k <= 8; k++) {
                    check.due("chance(" + m + ", " + n + ", " + k + ")", x.chance(m, n, k), counted(m, n, k));
                }
            }
        }
    }

    private static void sidesFromOneToThree() {
        check.says("m, n 1 .. 3. BAD.");
        GrowingCorners x = new GrowingCorners();
        for (int side : new int[] {Integer.MIN_VALUE, -1, 0, 4, 5, 6, Integer.MAX_VALUE}) {
            check.due("chance(" + side + ", 1, 0)", x.chance(side, 1, 0), GrowingCorners.BAD);
            check.due("chance(3, " + side + ", 8)", x.chance(3, side, 8), GrowingCorners.BAD);
            check.due("chance(" + side + ", " + side + ", 4)", x.chance(side, side, 4), GrowingCorners.BAD);
        }
    }

    private static void bestsFromZeroToEight() {
        check.says("k 0 .. 8. BAD.");
        GrowingCorners x = new GrowingCorners();
        for (int k : new int[] {Integer.MIN_VALUE, -1, 9, 10, Integer.MAX_VALUE}) {
            check.due("chance(1, 1, " + k + ")", x.chance(1, 1, k), GrowingCorners.BAD);
            check.due("chance(3, 3, " + k + ")", x.chance(3, 3, k), GrowingCorners.BAD);
        }
    }

    private static void bestOfNothing() {
        check.says("the chance that G is k or less (0: no weights at all), times 2 to the power m n");
        GrowingCorners x = new GrowingCorners();
        for (int m = 1; m <= 3; m++) {
            for (int n = 1; n <= 3; n++) {
                check.due("chance(" + m + ", " + n + ", 0)", x.chance(m, n, 0), 1);
            }
        }
    }

    private static void onePlace() {
        check.says("v with one half to the power v + 1");
        GrowingCorners x = new GrowingCorners();
        for (int k = 0; k <= 8; k++) {
            check.due("chance(1, 1, " + k + ")", x.chance(1, 1, k), (2 << k) - 1);
        }
    }

    private static void oneRow() {
        check.says("times 2 to the power m n + k times the lesser of m, n");
        GrowingCorners x = new GrowingCorners();
        // Two weights of one row: v + 1 ways to weigh v together, each of one half to the power v + 2.
        check.due("chance(1, 2, 1)", x.chance(1, 2, 1), 2 + 2);
        check.due("chance(1, 2, 2)", x.chance(1, 2, 2), 4 + 2 * 2 + 3);
        // Three: 1, 3, 6 ways to weigh 0, 1, 2.
        check.due("chance(1, 3, 2)", x.chance(1, 3, 2), 4 + 3 * 2 + 6);
    }

    private static void fourPlaces() {
        check.says("each on its own; G at its last place is k or less");
        GrowingCorners x = new GrowingCorners();
        // Of no weights 4, of one at either end 2 each, of one at either other place, or at both, 2, 2 and 1.
        check.due("chance(2, 2, 1)", x.chance(2, 2, 1), 4 + 2 + 2 + 2 + 2 + 1);
    }

    private static void rowsAndColumnsAlike() {
        check.says("a box of m rows, n columns: turned, its best way weighs the same");
        GrowingCorners x = new GrowingCorners();
        for (int k = 0; k <= 8; k++) {
            check.due("chance(2, 1, " + k + ")", x.chance(2, 1, k), x.chance(1, 2, k));
            check.due("chance(3, 1, " + k + ")", x.chance(3, 1, k), x.chance(1, 3, k));
            check.due("chance(3, 2, " + k + ")", x.chance(3, 2, k), x.chance(2, 3, k));
        }
    }

    private static void noStateIsAsked() {
        check.says("WEIGHTS of a box of m rows, n columns are drawn: THE BOX's own are not asked");
        GrowingCorners x = Fill.box(new int[][] {{20}});
        x.letter(1);
        check.due("chance(3, 3, 8)", x.chance(3, 3, 8), new GrowingCorners().chance(3, 3, 8));
        check.due("best(0, 0)", x.best(0, 0), 20);
    }

    /** Keeps, for each row of greatest ways so far, the sum of one half to the power of all weights, times 2^100. */
    static long counted(int m, int n, int k) {
        Map<List<Integer>, BigInteger> states = new HashMap<>();
        Integer[] none = new Integer[n];
        Arrays.fill(none, 0);
        states.put(List.of(none), BigInteger.ONE.shiftLeft(100));
        for (int cell = 0; cell < m * n; cell++) {
            states = afterCell(states, cell % n, k);
        }
        BigInteger sum = BigInteger.ZERO;
        for (BigInteger part : states.values()) {
            sum = sum.add(part);
        }
        return sum.shiftRight(100 - k * Math.min(m, n)).longValueExact();
    }

    private static Map<List<Integer>, BigInteger> afterCell(Map<List<Integer>, BigInteger> states, int j, int k) {
        Map<List<Integer>, BigInteger> next = new HashMap<>();
        for (Map.Entry<List<Integer>, BigInteger> state : states.entrySet()) {
            List<Integer> row = state.getKey();
            int before = j == 0 ? row.get(0) : Math.max(row.get(j), row.get(j - 1));
            for (int w = 0; before + w <= k; w++) {
                Integer[] grown = row.toArray(new Integer[0]);
                grown[j] = before + w;
                next.merge(List.of(grown), state.getValue().shiftRight(w), BigInteger::add);
            }
        }
        return next;
    }
}
