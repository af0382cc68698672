/** The document's sentences on the box and the sheets (promises 1 to 8) that name an edge: a test for each. */
public final class BoxEdgesTest {
    private static final int BAD = GrowingCorners.BAD;
    private static final int NOT = GrowingCorners.NOT;
    private static final int NULL = GrowingCorners.NULL;
    private static final int CAST = GrowingCorners.CAST;
    private static final int INDEX = GrowingCorners.INDEX;
    private static final int SIZE = GrowingCorners.SIZE;
    private static final int LEAST = Integer.MIN_VALUE;
    private static final int MOST = Integer.MAX_VALUE;
    private static final Check check = new Check();

    public static void main(String[] args) {
        sidesFromOneToSix();
        threeByThreeAtFirst();
        allWeightsZeroAgain();
        weightsFromZeroToTwenty();
        weightTellsWhatItWas();
        sheetsFromZeroToThree();
        sheetsHoldNothingAtFirst();
        lanesZeroAndOne();
        upToThirtySixItems();
        itemsZeroAtFirst();
        sizeBelowZero();
        firstRefusalOfSheet();
        newRowInsteadOfTheOld();
        dropTellsHowMany();
        anEmptyRowIsNotNothing();
        itemsAtBothEnds();
        itemsOfAnyNumber();
        firstRefusalOfItem();
        allItemsFromOneOn();
        fromBeyondEveryRow();
        itemsThatAreNoWeights();
        itemsBesideThoseTaken();
        firstRefusalOfWeights();
        turnsOfThinBoxes();
        turnLeavesNothingBehind();
        check.end();
    }

    private static void sidesFromOneToSix() {
        check.says("THE BOX has M rows, N columns (1 .. 6 each)");
        GrowingCorners x = new GrowingCorners();
        for (int side : new int[] {LEAST, -6, -1, 0, 7, 8, MOST}) {
            check.due("box(" + side + ", 1)", x.box(side, 1), BAD);
            check.due("box(6, " + side + ")", x.box(6, side), BAD);
            check.due("box(" + side + ", " + side + ")", x.box(side, side), BAD);
        }
        check.due("shape(3, 3, 0) of the box that stays", x.shape(3, 3, 0), 0);
        check.due("shape(4, 3, 0) of the box that stays", x.shape(4, 3, 0), BAD);
        int[][] corners = {{1, 1}, {1, 6}, {6, 1}, {6, 6}};
        for (int[] sides : corners) {
            check.due("box(" + sides[0] + ", " + sides[1] + ")", x.box(sides[0], sides[1]), 1);
            Fill.isBox(check, x, new int[sides[0]][sides[1]]);
        }
    }

    private static void threeByThreeAtFirst() {
        check.says("3 by 3 at first; WEIGHTS 0 at first");
        GrowingCorners x = new GrowingCorners();
        check.due("weight(2, 2, 20)", x.weight(2, 2, 20), 0);
        check.due("weight(3, 2, 20)", x.weight(3, 2, 20), BAD);
        check.due("weight(2, 3, 20)", x.weight(2, 3, 20), BAD);
        check.due("line(4)", x.line(4), 22);
        check.due("line(5)", x.line(5), BAD);
        check.due("best(2, 2)", x.best(2, 2), 20);
        Fill.isBox(check, new GrowingCorners(), new int[3][3]);
    }

    private static void allWeightsZeroAgain() {
        check.says("all WEIGHTS 0: 1");
        GrowingCorners x = new GrowingCorners();
        x.box(6, 6);
        x.weight(5, 5, 20);
        x.weight(0, 0, 20);
        x.box(1, 1);
        Fill.isBox(check, x, new int[1][1]);
        x.box(6, 6);
        Fill.isBox(check, x, new int[6][6]);
        check.due("sums(5, 5)", x.sums(5, 5), 0);
        check.due("ways(6)", x.ways(6), 0);
    }

    private static void weightsFromZeroToTwenty() {
        check.says("WEIGHTS 0 .. 20");
        GrowingCorners x = new GrowingCorners();
        x.weight(1, 1, 9);
        for (int w : new int[] {LEAST, -20, -1, 21, 22, MOST}) {
            check.due("weight(1, 1, " + w + ")", x.weight(1, 1, w), BAD);
        }
        check.due("weight(1, 1, 20)", x.weight(1, 1, 20), 9);
        check.due("weight(1, 1, 0)", x.weight(1, 1, 0), 20);
        check.due("weight(1, 1, 1)", x.weight(1, 1, 1), 0);
    }

    private static void weightTellsWhatItWas() {
        check.says("A WEIGHT: what it was. BAD.");
        GrowingCorners x = new GrowingCorners();
        x.box(2, 3);
        check.due("weight(1, 2, 5)", x.weight(1, 2, 5), 0);
        check.due("weight(1, 2, 5), the same", x.weight(1, 2, 5), 5);
        int[][] wrong = {{2, 0}, {0, 3}, {2, 3}, {-1, 0}, {0, -1}, {LEAST, 2}, {1, LEAST}, {MOST, 0}, {0, MOST}};
        for (int[] place : wrong) {
            check.due("weight at " + place[0] + ", " + place[1], x.weight(place[0], place[1], 5), BAD);
        }
        Fill.isBox(check, x, new int[][] {{0, 0, 0}, {0, 0, 5}});
    }

    private static void sheetsFromZeroToThree() {
        check.says("SHEETS 0 .. 3");
        GrowingCorners x = new GrowingCorners();
        for (int s : new int[] {LEAST, -1, 4, 5, MOST}) {
            check.due("sheet(" + s + ", 0, 9)", x.sheet(s, 0, 9), BAD);
            check.due("drop(" + s + ")", x.drop(s), BAD);
            check.due("item(" + s + ", 0, 0, 1)", x.item(s, 0, 0, 1), BAD);
            check.due("weights(" + s + ", 0, 0)", x.weights(s, 0, 0), BAD);
        }
        for (int s = 0; s < 4; s++) {
            check.due("sheet(" + s + ", 0, 9)", x.sheet(s, 0, 9), 9);
            check.due("item(" + s + ", 0, 0, 1)", x.item(s, 0, 0, s + 1), 1);
        }
        for (int s = 0; s < 4; s++) {
            check.due("weights(" + s + ", 0, 0)", x.weights(s, 0, 0), s + 1);
            check.due("drop(" + s + ")", x.drop(s), 9);
        }
    }

    private static void sheetsHoldNothingAtFirst() {
        check.says("SHEETS hold nothing (at first)");
        GrowingCorners x = new GrowingCorners();
        for (int s = 0; s < 4; s++) {
            for (int lane = 0; lane < 2; lane++) {
                check.due("item(" + s + ", " + lane + ", 0, 0)", x.item(s, lane, 0, 0), NULL);
                check.due("weights(" + s + ", " + lane + ", 0)", x.weights(s, lane, 0), NULL);
            }
            check.due("drop(" + s + ")", x.drop(s), NULL);
        }
    }

    private static void lanesZeroAndOne() {
        check.says("a row of a LANE: 0 ints, 1 longs");
        GrowingCorners x = new GrowingCorners();
        x.sheet(0, 0, 9);
        x.sheet(1, 1, 9);
        for (int lane : new int[] {LEAST, -1, 2, MOST}) {
            check.due("sheet(0, " + lane + ", 1)", x.sheet(0, lane, 1), BAD);
            check.due("item(0, " + lane + ", 0, 1)", x.item(0, lane, 0, 1), BAD);
            check.due("weights(1, " + lane + ", 0)", x.weights(1, lane, 0), BAD);
        }
        check.due("item(0, 1, 0, 1) of ints", x.item(0, 1, 0, 1), CAST);
        check.due("item(1, 0, 0, 1) of longs", x.item(1, 0, 0, 1), CAST);
        check.due("weights(0, 1, 0) of ints", x.weights(0, 1, 0), CAST);
        check.due("weights(1, 0, 0) of longs", x.weights(1, 0, 0), CAST);
        check.due("item(0, 0, 0, 1) of ints", x.item(0, 0, 0, 1), 1);
        check.due("item(1, 1, 0, 2) of longs", x.item(1, 1, 0, 2), 1);
        check.due("weights(0, 0, 0) of ints", x.weights(0, 0, 0), 1);
        check.due("weights(1, 1, 0) of longs", x.weights(1, 1, 0), 2);
    }

    private static void upToThirtySixItems() {
        check.says("of 0 to 36 items. BAD: also n above 36");
        GrowingCorners x = new GrowingCorners();
        for (int lane = 0; lane < 2; lane++) {
            for (int n : new int[] {0, 1, 35, 36}) {
                check.due("sheet(2, " + lane + ", " + n + ")", x.sheet(2, lane, n), n);
                check.due("item behind its end", x.item(2, lane, n, 1), INDEX);
            }
            for (int n : new int[] {37, 38, 1 << 16, MOST}) {
                check.due("sheet(2, " + lane + ", " + n + ")", x.sheet(2, lane, n), BAD);
            }
            check.due("drop(2): the row that stays", x.drop(2), 36);
        }
    }

    private static void itemsZeroAtFirst() {
        check.says("items (0 at first)");
        GrowingCorners x = new GrowingCorners();
        x.box(6, 6);
        for (int lane = 0; lane < 2; lane++) {
            x.sheet(0, lane, 36);
            check.due("weights of a new row", x.weights(0, lane, 0), 0);
            for (int i = 0; i < 36; i++) {
                x.item(0, lane, i, 20);
            }
            check.due("weights of a row that was written", x.weights(0, lane, 0), 720);
            x.sheet(0, lane, 36);
            check.due("weights of a row that is new again", x.weights(0, lane, 0), 0);
            x.item(0, lane, 35, 20);
            x.drop(0);
        }
        x.sheet(0, 1, 36);
        check.due("weights of a row in place of nothing", x.weights(0, 1, 0), 0);
    }

    private static void sizeBelowZero() {
        check.says("SIZE: n below 0");
        GrowingCorners x = new GrowingCorners();
        for (int n : new int[] {-1, -36, -37, LEAST}) {
            check.due("sheet(0, 0, " + n + ")", x.sheet(0, 0, n), SIZE);
            check.due("sheet(3, 1, " + n + ")", x.sheet(3, 1, n), SIZE);
        }
        check.due("drop(0): nothing stays nothing", x.drop(0), NULL);
        x.sheet(0, 1, 5);
        check.due("sheet(0, 0, -1)", x.sheet(0, 0, -1), SIZE);
        check.due("item(0, 1, 4, 1): the row stays", x.item(0, 1, 4, 1), 1);
    }

    private static void firstRefusalOfSheet() {
        check.says("of several the first that a call names: BAD ahead of SIZE");
        GrowingCorners x = new GrowingCorners();
        check.due("sheet(4, 0, -1)", x.sheet(4, 0, -1), BAD);
        check.due("sheet(-1, 0, -1)", x.sheet(-1, 0, -1), BAD);
        check.due("sheet(0, 2, -1)", x.sheet(0, 2, -1), BAD);
        check.due("sheet(0, -1, min)", x.sheet(0, -1, LEAST), BAD);
    }

    private static void newRowInsteadOfTheOld() {
        check.says("A SHEET holds a new row of a LANE: n");
        GrowingCorners x = new GrowingCorners();
        x.sheet(1, 0, 20);
        check.due("sheet(1, 1, 3), shorter", x.sheet(1, 1, 3), 3);
        check.due("item(1, 1, 3, 0)", x.item(1, 1, 3, 0), INDEX);
        check.due("item(1, 0, 0, 0)", x.item(1, 0, 0, 0), CAST);
        check.due("sheet(1, 0, 30), longer", x.sheet(1, 0, 30), 30);
        check.due("item(1, 0, 29, 0)", x.item(1, 0, 29, 0), 1);
        check.due("item(1, 1, 0, 0)", x.item(1, 1, 0, 0), CAST);
    }

    private static void dropTellsHowMany() {
        check.says("A SHEET holds nothing: how many items it had. BAD; NULL.");
        GrowingCorners x = new GrowingCorners();
        x.sheet(3, 1, 36);
        check.due("drop(3)", x.drop(3), 36);
        check.due("drop(3) again", x.drop(3), NULL);
        check.due("item(3, 1, 0, 0)", x.item(3, 1, 0, 0), NULL);
        check.due("weights(3, 1, 0)", x.weights(3, 1, 0), NULL);
        check.due("sheet(3, 0, 2)", x.sheet(3, 0, 2), 2);
        check.due("drop(3) of the next row", x.drop(3), 2);
    }

    private static void anEmptyRowIsNotNothing() {
        check.says("SHEETS hold nothing, or a row of 0 to 36 items");
        GrowingCorners x = new GrowingCorners();
        for (int lane = 0; lane < 2; lane++) {
            check.due("sheet(0, lane, 0)", x.sheet(0, lane, 0), 0);
            check.due("item(0, lane, 0, 1)", x.item(0, lane, 0, 1), INDEX);
            check.due("item(0, lane, -1, 1)", x.item(0, lane, -1, 1), INDEX);
            check.due("item(0, other lane, 0, 1)", x.item(0, 1 - lane, 0, 1), CAST);
            check.due("weights(0, lane, 0)", x.weights(0, lane, 0), INDEX);
            check.due("weights(0, other lane, 0)", x.weights(0, 1 - lane, 0), CAST);
            check.due("drop(0)", x.drop(0), 0);
            check.due("drop(0) again", x.drop(0), NULL);
        }
    }

    private static void itemsAtBothEnds() {
        check.says("Item i of a SHEET becomes v: 1. INDEX.");
        GrowingCorners x = new GrowingCorners();
        x.box(1, 1);
        for (int lane = 0; lane < 2; lane++) {
            x.sheet(2, lane, 7);
            for (int i : new int[] {LEAST, -7, -1, 7, 8, 36, MOST}) {
                check.due("item(2, lane, " + i + ", 3)", x.item(2, lane, i, 3), INDEX);
            }
            check.due("item(2, lane, 0, 11)", x.item(2, lane, 0, 11), 1);
            check.due("item(2, lane, 6, 17)", x.item(2, lane, 6, 17), 1);
            check.due("item 0", x.weights(2, lane, 0), 11);
            check.due("item 1", x.weights(2, lane, 1), 0);
            check.due("item 5", x.weights(2, lane, 5), 0);
            check.due("item 6", x.weights(2, lane, 6), 17);
        }
    }

    private static void itemsOfAnyNumber() {
        check.says("Item i becomes v (v is any number: BAD tells nothing of it)");
        GrowingCorners x = new GrowingCorners();
        x.box(1, 1);
        for (int lane = 0; lane < 2; lane++) {
            x.sheet(0, lane, 1);
            for (int v : new int[] {LEAST, -1, 21, 256, 1 << 16, MOST}) {
                check.due("item(0, lane, 0, " + v + ")", x.item(0, lane, 0, v), 1);
                check.due("weights with " + v, x.weights(0, lane, 0), NOT);
            }
        }
    }

    private static void firstRefusalOfItem() {
        check.says("BAD; NULL; CAST; INDEX, in this order");
        GrowingCorners x = new GrowingCorners();
        check.due("BAD and NULL: no such lane", x.item(0, 2, 0, 0), BAD);
        check.due("BAD and INDEX: no such sheet", x.item(4, 0, -1, 0), BAD);
        check.due("NULL and INDEX", x.item(0, 0, -1, 0), NULL);
        x.sheet(0, 0, 2);
        check.due("BAD and INDEX: no such lane", x.item(0, -1, 2, 0), BAD);
        check.due("CAST and INDEX", x.item(0, 1, 2, 0), CAST);
        check.due("INDEX alone", x.item(0, 0, 2, 0), INDEX);
    }

    private static void allItemsFromOneOn() {
        check.says("All M N items from one on. INDEX.");
        GrowingCorners x = new GrowingCorners();
        x.box(2, 2);
        for (int lane = 0; lane < 2; lane++) {
            x.sheet(0, lane, 6);
            for (int i = 0; i < 6; i++) {
                x.item(0, lane, i, i + 1);
            }
            check.due("weights from 0", x.weights(0, lane, 0), 10);
            check.due("weights from 2, the last that fits", x.weights(0, lane, 2), 18);
            for (int from : new int[] {-1, 3, 5, 6, 7}) {
                check.due("weights from " + from, x.weights(0, lane, from), INDEX);
            }
            Fill.isBox(check, x, new int[][] {{3, 4}, {5, 6}});
            x.sheet(0, lane, 3);
            check.due("weights of too few items", x.weights(0, lane, 0), INDEX);
            x.sheet(0, lane, 4);
            x.item(0, lane, 3, 20);
            check.due("weights of as many items", x.weights(0, lane, 0), 20);
            Fill.isBox(check, x, new int[][] {{0, 0}, {0, 20}});
        }
    }

    private static void fromBeyondEveryRow() {
        check.says("All M N items from one on: a sum that wraps around names no item");
        GrowingCorners x = new GrowingCorners();
        x.box(6, 6);
        for (int lane = 0; lane < 2; lane++) {
            x.sheet(0, lane, 36);
            for (int from : new int[] {LEAST, LEAST + 36, -36, -1, 1, 36, MOST - 36, MOST - 35, MOST}) {
                check.due("weights from " + from, x.weights(0, lane, from), INDEX);
            }
            check.due("weights from 0", x.weights(0, lane, 0), 0);
        }
    }

    private static void itemsThatAreNoWeights() {
        check.says("NOT: one is not 0 .. 20");
        for (int lane = 0; lane < 2; lane++) {
            for (int at = 0; at < 4; at++) {
                GrowingCorners x = Fill.box(new int[][] {{1, 2}, {3, 4}});
                x.sheet(0, lane, 4);
                for (int v : new int[] {LEAST, -1, 21, MOST}) {
                    x.item(0, lane, at, v);
                    check.due("weights with " + v + " at " + at, x.weights(0, lane, 0), NOT);
                }
                Fill.isBox(check, x, new int[][] {{1, 2}, {3, 4}});
                x.item(0, lane, at, 20);
                check.due("weights with 20 at " + at, x.weights(0, lane, 0), 20);
                x.item(0, lane, at, 0);
                check.due("weights with 0 at " + at, x.weights(0, lane, 0), 0);
            }
        }
    }

    private static void itemsBesideThoseTaken() {
        check.says("NOT is of the M N items alone");
        GrowingCorners x = new GrowingCorners();
        x.box(1, 2);
        x.sheet(0, 1, 4);
        x.item(0, 1, 0, -1);
        x.item(0, 1, 1, 7);
        x.item(0, 1, 2, 8);
        x.item(0, 1, 3, 21);
        check.due("weights from 0", x.weights(0, 1, 0), NOT);
        check.due("weights from 1", x.weights(0, 1, 1), 15);
        check.due("weights from 2", x.weights(0, 1, 2), NOT);
        Fill.isBox(check, x, new int[][] {{7, 8}});
    }

    private static void firstRefusalOfWeights() {
        check.says("BAD; NULL; CAST; INDEX; NOT, in this order");
        GrowingCorners x = new GrowingCorners();
        x.box(1, 2);
        check.due("BAD and NULL: no such lane", x.weights(0, 2, 0), BAD);
        check.due("BAD and INDEX: no such sheet", x.weights(-1, 0, -1), BAD);
        check.due("NULL and INDEX", x.weights(0, 1, -1), NULL);
        x.sheet(0, 0, 2);
        x.item(0, 0, 0, 21);
        x.item(0, 0, 1, -1);
        check.due("BAD, INDEX and NOT: no such lane", x.weights(0, -1, 1), BAD);
        check.due("CAST, INDEX and NOT", x.weights(0, 1, 1), CAST);
        check.due("CAST and NOT", x.weights(0, 1, 0), CAST);
        check.due("INDEX and NOT", x.weights(0, 0, 1), INDEX);
        check.due("NOT alone", x.weights(0, 0, 0), NOT);
    }

    private static void turnsOfThinBoxes() {
        check.says("THE BOX's rows become its columns: 1");
        GrowingCorners x = Fill.box(new int[][] {{9, 8, 7, 6, 5, 4}});
        check.due("turn", x.turn(), 1);
        Fill.isBox(check, x, new int[][] {{9}, {8}, {7}, {6}, {5}, {4}});
        check.due("weight(0, 1, 0)", x.weight(0, 1, 0), BAD);
        check.due("turn", x.turn(), 1);
        Fill.isBox(check, x, new int[][] {{9, 8, 7, 6, 5, 4}});
        GrowingCorners one = Fill.box(new int[][] {{13}});
        check.due("turn of one place", one.turn(), 1);
        Fill.isBox(check, one, new int[][] {{13}});
        int[][] greatest = new int[6][6];
        int[][] turned = new int[6][6];
        for (int n = 0; n < 36; n++) {
            greatest[n / 6][n % 6] = n % 21;
            turned[n % 6][n / 6] = n % 21;
        }
        GrowingCorners great = Fill.box(greatest);
        check.due("turn of the greatest box", great.turn(), 1);
        Fill.isBox(check, great, turned);
    }

    private static void turnLeavesNothingBehind() {
        check.says("rows become columns, and box makes all WEIGHTS 0");
        GrowingCorners x = Fill.box(new int[][] {{1, 2, 3, 4, 5, 6}, {1, 2, 3, 4, 5, 6}});
        x.turn();
        x.box(6, 6);
        Fill.isBox(check, x, new int[6][6]);
        check.due("ways(6)", x.ways(6), 0);
    }
}
