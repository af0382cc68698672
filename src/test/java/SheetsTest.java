/** Promises 4 sheet, 5 drop, 6 item, 7 weights. */
public final class SheetsTest {
    private static final Check check = new Check();

    public static void main(String[] args) {
        newSheets();
        drops();
        items();
        boxFromSheet();
        refusedWeights();
        check.end();
    }

    private static void newSheets() {
        GrowingCorners x = new GrowingCorners();
        check.due("sheet(0, 0, 0)", x.sheet(0, 0, 0), 0);
        check.due("sheet(3, 1, 36)", x.sheet(3, 1, 36), 36);
        check.due("sheet(0, 0, 37)", x.sheet(0, 0, 37), GrowingCorners.BAD);
        check.due("sheet(0, 0, max)", x.sheet(0, 0, Integer.MAX_VALUE), GrowingCorners.BAD);
        check.due("sheet(0, 0, -1)", x.sheet(0, 0, -1), GrowingCorners.SIZE);
        check.due("sheet(0, 0, min)", x.sheet(0, 0, Integer.MIN_VALUE), GrowingCorners.SIZE);
        check.due("sheet(4, 0, -1)", x.sheet(4, 0, -1), GrowingCorners.BAD);
        check.due("sheet(-1, 0, 1)", x.sheet(-1, 0, 1), GrowingCorners.BAD);
        check.due("sheet(0, 2, -1)", x.sheet(0, 2, -1), GrowingCorners.BAD);
        check.due("sheet(0, -1, 1)", x.sheet(0, -1, 1), GrowingCorners.BAD);
        check.due("what is refused changes nothing", x.drop(0), 0);
        check.due("nor what is beside", x.drop(3), 36);
        x.sheet(1, 0, 9);
        x.item(1, 0, 4, 7);
        check.due("sheet(1, 1, 9), new", x.sheet(1, 1, 9), 9);
        check.due("the lane is new", x.item(1, 0, 0, 1), GrowingCorners.CAST);
        check.due("the items are new", x.weights(1, 1, 0), 0);
    }

    private static void drops() {
        GrowingCorners x = new GrowingCorners();
        check.due("drop(0) of nothing", x.drop(0), GrowingCorners.NULL);
        check.due("drop(4)", x.drop(4), GrowingCorners.BAD);
        check.due("drop(-1)", x.drop(-1), GrowingCorners.BAD);
        for (int s = 0; s < 4; s++) {
            x.sheet(s, s % 2, s * 5);
        }
        for (int s = 0; s < 4; s++) {
            check.due("drop(" + s + ")", x.drop(s), s * 5);
            check.due("drop(" + s + ") again", x.drop(s), GrowingCorners.NULL);
            check.due("item of what is dropped", x.item(s, s % 2, 0, 0), GrowingCorners.NULL);
        }
    }

    private static void items() {
        GrowingCorners x = new GrowingCorners();
        check.due("item of nothing", x.item(2, 1, -1, 0), GrowingCorners.NULL);
        x.sheet(2, 1, 9);
        check.due("item(2, 0, -1, 0)", x.item(2, 0, -1, 0), GrowingCorners.CAST);
        check.due("item(2, 1, -1, 0)", x.item(2, 1, -1, 0), GrowingCorners.INDEX);
        check.due("item(2, 1, 9, 0)", x.item(2, 1, 9, 0), GrowingCorners.INDEX);
        check.due("item(2, 1, max, 0)", x.item(2, 1, Integer.MAX_VALUE, 0), GrowingCorners.INDEX);
        check.due("item(2, 1, min, 0)", x.item(2, 1, Integer.MIN_VALUE, 0), GrowingCorners.INDEX);
        check.due("item(4, 1, 0, 0)", x.item(4, 1, 0, 0), GrowingCorners.BAD);
        check.due("item(-1, 1, 0, 0)", x.item(-1, 1, 0, 0), GrowingCorners.BAD);
        check.due("item(2, 2, 0, 0)", x.item(2, 2, 0, 0), GrowingCorners.BAD);
        check.due("item(0, -1, 0, 0)", x.item(0, -1, 0, 0), GrowingCorners.BAD);
        check.due("item(2, 1, 8, 20)", x.item(2, 1, 8, 20), 1);
        check.due("item(2, 1, 0, max)", x.item(2, 1, 0, Integer.MAX_VALUE), 1);
        check.due("a greatest item is no weight", x.weights(2, 1, 0), GrowingCorners.NOT);
        check.due("item(2, 1, 0, 4)", x.item(2, 1, 0, 4), 1);
        check.due("weights are items", x.weights(2, 1, 0), 24);
        x.sheet(0, 0, 0);
        check.due("item of an empty row", x.item(0, 0, 0, 1), GrowingCorners.INDEX);
    }

    private static void boxFromSheet() {
        for (int lane = 0; lane < 2; lane++) {
            GrowingCorners x = new GrowingCorners();
            x.box(2, 3);
            x.sheet(1, lane, 8);
            for (int i = 0; i < 8; i++) {
                x.item(1, lane, i, i + 1);
            }
            check.due("weights from 0", x.weights(1, lane, 0), 21);
            Fill.isBox(check, x, new int[][] {{1, 2, 3}, {4, 5, 6}});
            check.due("weights from 2", x.weights(1, lane, 2), 33);
            Fill.isBox(check, x, new int[][] {{3, 4, 5}, {6, 7, 8}});
            x.item(1, lane, 2, 20);
            Fill.isBox(check, x, new int[][] {{3, 4, 5}, {6, 7, 8}});
        }
        GrowingCorners x = new GrowingCorners();
        x.box(6, 6);
        x.sheet(3, 1, 36);
        for (int i = 0; i < 36; i++) {
            x.item(3, 1, i, 20);
        }
        check.due("weights of the greatest box", x.weights(3, 1, 0), 720);
    }

    private static void refusedWeights() {
        GrowingCorners x = new GrowingCorners();
        x.box(2, 2);
        x.weight(1, 0, 6);
        check.due("weights of nothing", x.weights(0, 0, -1), GrowingCorners.NULL);
        x.sheet(0, 0, 6);
        x.item(0, 0, 0, 3);
        x.item(0, 0, 2, 21);
        check.due("weights of another lane", x.weights(0, 1, -1), GrowingCorners.CAST);
        check.due("weights from -1", x.weights(0, 0, -1), GrowingCorners.INDEX);
        check.due("weights from 3", x.weights(0, 0, 3), GrowingCorners.INDEX);
        check.due("weights from the greatest", x.weights(0, 0, Integer.MAX_VALUE), GrowingCorners.INDEX);
        check.due("weights from the least", x.weights(0, 0, Integer.MIN_VALUE), GrowingCorners.INDEX);
        check.due("weights of sheet 4", x.weights(4, 0, 0), GrowingCorners.BAD);
        check.due("weights of sheet -1", x.weights(-1, 0, 0), GrowingCorners.BAD);
        check.due("weights of lane 2", x.weights(1, 2, 0), GrowingCorners.BAD);
        check.due("weights with 21", x.weights(0, 0, 0), GrowingCorners.NOT);
        x.item(0, 0, 2, -1);
        check.due("weights with -1", x.weights(0, 0, 2), GrowingCorners.NOT);
        check.due("the index comes ahead of NOT", x.weights(0, 0, 5), GrowingCorners.INDEX);
        Fill.isBox(check, x, new int[][] {{0, 0}, {6, 0}});
    }
}
