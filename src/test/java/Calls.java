/** Calls by their names, with four arguments each, of which a call takes as many as it has. */
final class Calls {
    static final String[] NAMES = {"box", "weight", "sheet", "drop", "item", "weights", "turn", "best", "between",
        "shape", "ways", "sums", "served", "line", "letter", "clear", "row", "place", "longest", "lay", "unlay",
        "back", "wordOf", "chance"};

    private Calls() {
    }

    static int argumentsOf(String name) {
        switch (name) {
            case "item":
            case "between": return 4;
            case "weight":
            case "sheet":
            case "weights":
            case "shape":
            case "place":
            case "lay":
            case "chance": return 3;
            case "box":
            case "best":
            case "sums":
            case "served": return 2;
            case "turn":
            case "clear":
            case "unlay":
            case "back":
            case "wordOf": return 0;
            default: return 1;
        }
    }

    static long call(GrowingCorners x, String name, int a, int b, int c, int d) {
        switch (name) {
            case "box": return x.box(a, b);
            case "weight": return x.weight(a, b, c);
            case "sheet": return x.sheet(a, b, c);
            case "drop": return x.drop(a);
            case "item": return x.item(a, b, c, d);
            case "weights": return x.weights(a, b, c);
            case "turn": return x.turn();
            case "best": return x.best(a, b);
            case "between": return x.between(a, b, c, d);
            case "shape": return x.shape(a, b, c);
            case "ways": return x.ways(a);
            case "sums": return x.sums(a, b);
            case "served": return x.served(a, b);
            case "line": return x.line(a);
            case "letter": return x.letter(a);
            case "clear": return x.clear();
            case "row": return x.row(a);
            case "place": return x.place(a, b, c);
            case "longest": return x.longest(a);
            case "lay": return x.lay(a, b, c);
            case "unlay": return x.unlay();
            case "back": return x.back();
            case "wordOf": return x.wordOf();
            case "chance": return x.chance(a, b, c);
            default: throw new IllegalArgumentException(name);
        }
    }
}
