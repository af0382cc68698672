import java.math.BigInteger;
import java.util.Arrays;
import java.util.HashMap;
import java.util.List;
import java.util.Map;

/** Promise 25 chance: against a count of all weights, place by place, that knows nothing of shapes. */
public final class ChancesTest {
    private static final Check check = new Check();

    public static void main(String[] args) {
        GrowingCorners x = new GrowingCorners();
        check.due("chance(1, 1, 8)", x.chance(1, 1, 8), 511);
        check.due("chance(2, 2, 0)", x.chance(2, 2, 0), 1);
        // Of no weights 4, of one at either end 2 each, of one at either other place, or at both, 2, 2 and 1.
        check.due("chance(2, 2, 1)", x.chance(2, 2, 1), 4 + 2 + 2 + 2 + 2 + 1);
        for (int m = 1; m <= 3; m++) {
            for (int n = 1; n <= 3; n++) {
                for (int k = 0; k <= 8; k++) {
                    check.due("chance(" + m + ", " + n + ", " + k + ")", x.chance(m, n, k), counted(m, n, k));
                }
            }
        }
        int[][] wrong = {{0, 1, 0}, {1, 0, 0}, {4, 1, 0}, {1, 4, 0}, {1, 1, -1}, {1, 1, 9}, {-1, 1, 1},
            {Integer.MAX_VALUE, 1, 1}, {1, Integer.MIN_VALUE, 1}, {3, 3, Integer.MAX_VALUE}};
        for (int[] w : wrong) {
            check.due("chance(" + w[0] + ", " + w[1] + ", " + w[2] + ")", x.chance(w[0], w[1], w[2]),
                    GrowingCorners.BAD);
        }
        check.end();
    }

    /** Keeps, for each row of greatest ways so far, the sum of one half to the power of all weights, scaled by 2^100. */
    private static long counted(int m, int n, int k) {
        Map<List<Integer>, BigInteger> states = new HashMap<>();
        Integer[] none = new Integer[n];
        Arrays.fill(none, 0);
        states.put(List.of(none), BigInteger.ONE.shiftLeft(100));
        for (int cell = 0; cell < m * n; cell++) {
            states = afterCell(states, cell % n, k);
        }
        BigInteger sum = BigInteger.ZERO;
        for (BigInteger part : states.values()) {
            sum = sum.add(part);
        }
        return sum.shiftRight(100 - k * Math.min(m, n)).longValueExact();
    }

    private static Map<List<Integer>, BigInteger> afterCell(Map<List<Integer>, BigInteger> states, int j, int k) {
        Map<List<Integer>, BigInteger> next = new HashMap<>();
        for (Map.Entry<List<Integer>, BigInteger> state : states.entrySet()) {
            List<Integer> row = state.getKey();
            int before = j == 0 ? row.get(0) : Math.max(row.get(j), row.get(j - 1));
            for (int w = 0; before + w <= k; w++) {
                Integer[] grown = row.toArray(new Integer[0]);
                grown[j] = before + w;
                next.merge(List.of(grown), state.getValue().shiftRight(w), BigInteger::add);
            }
        }
        return next;
    }
}
