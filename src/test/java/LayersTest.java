/** Promises 11 to 18. */
public final class LayersTest {
    public static void main(String[] args) {
        folding();
        crossing();
        lowestCrossedCrease();
        unfolding();
        layersAndSections();
        canFold();
        completions();
        completionsOfPiles();
        Check.end();
    }

    private static String pile(FoldedArchive x) {
        return Check.line(x, x.writePile());
    }

    private static void foldAll(FoldedArchive x, int... layers) {
        for (int layer : layers) {
            x.fold(layer);
        }
    }

    private static void folding() {
        FoldedArchive x = new FoldedArchive();
        Check.denied("11: no sections", x, () -> x.fold(0), 2, 0);
        Check.index("11: layer before denial", () -> x.fold(1));
        FoldedArchive y = Check.strip(3);
        Check.index("11: below", () -> y.fold(-1));
        Check.index("11: above an empty pile", () -> y.fold(1));
        Check.due("11: first", () -> y.fold(0), 1);
        Check.due("11: below it", () -> y.fold(0), 2);
        Check.due("11: moves the others up", () -> pile(y), "10");
        Check.index("11: above the pile", () -> y.fold(3));
        Check.due("11: on top", () -> y.fold(2), 3);
        Check.due("11: pile", () -> pile(y), "102");
        Check.denied("11: all folded", y, () -> y.fold(0), 2, 3);
        Check.index("11: layer before all folded", () -> y.fold(4));
        Check.due("13: three", () -> y.foldedCount(), 3);
    }

    // Pile 0 1 with crease 0 on the right; sections 2 and 3 bring creases 1 (left) and 2 (right).
    private static void crossing() {
        FoldedArchive x = Check.strip(4);
        foldAll(x, 0, 1, 1);
        Check.due("11: different sides don't cross", () -> pile(x), "021");
        Check.denied("11: ends outside", x, () -> x.fold(0), 4, 0);
        Check.denied("11: ends outside above", x, () -> x.fold(3), 4, 0);
        Check.due("11: denied folds nothing", () -> pile(x), "021");
        Check.due("16: inside below", () -> x.canFold(1), true);
        Check.due("16: inside above", () -> x.canFold(2), true);
        Check.due("11: inside", () -> x.fold(1), 4);
        Check.due("11: spans inside one another", () -> pile(x), "0321");
    }

    // Section 6 brings crease 5 on the left, where creases 1 and 3 are; both are crossed at once.
    private static void lowestCrossedCrease() {
        FoldedArchive x = Check.strip(7);
        foldAll(x, 0, 1, 2, 2, 2, 3);
        Check.due("11: pile of six", () -> pile(x), "014532");
        Check.denied("11: the lowest of two", x, () -> x.fold(0), 4, 1);
        Check.denied("11: the higher one alone", x, () -> x.fold(5), 4, 3);
        Check.due("11: no crossing", () -> x.fold(4), 7);
        FoldedArchive y = Check.strip(7);
        foldAll(y, 0, 0, 0, 1, 1, 2);
        Check.due("11: pile of six, upside down", () -> pile(y), "245310");
    }

    private static void unfolding() {
        FoldedArchive x = Check.strip(4);
        Check.denied("12: nothing folded", x, () -> x.unfold(), 3, 4);
        foldAll(x, 0, 1, 1, 2);
        Check.due("12: its layer", () -> x.unfold(), 2);
        Check.due("12: the others stay", () -> pile(x), "021");
        Check.due("12: the next one", () -> x.unfold(), 1);
        Check.due("12: those above move down", () -> x.layerOf(1), 1);
        Check.due("13: two", () -> x.foldedCount(), 2);
        Check.due("12: on top", () -> x.unfold(), 1);
        Check.due("12: the last", () -> x.unfold(), 0);
        Check.denied("12: nothing left", x, () -> x.unfold(), 3, 4);
        FoldedArchive y = new FoldedArchive();
        Check.denied("12: no sections", y, () -> y.unfold(), 3, 0);
    }

    private static void layersAndSections() {
        FoldedArchive x = Check.strip(4);
        foldAll(x, 0, 1, 1);
        int[] layers = {0, 2, 1};
        for (int section = 0; section < 3; section++) {
            int asked = section;
            Check.due("14: " + section, () -> x.layerOf(asked), layers[asked]);
            Check.due("15: " + section, () -> x.sectionIn(layers[asked]), asked);
        }
        Check.missing("14: not folded", () -> x.layerOf(3));
        Check.index("14: no such section", () -> x.layerOf(4));
        Check.index("14: below", () -> x.layerOf(-1));
        Check.index("15: above the pile", () -> x.sectionIn(3));
        Check.index("15: below", () -> x.sectionIn(-1));
        Check.index("15: no pile", () -> Check.strip(2).sectionIn(0));
    }

    private static void canFold() {
        FoldedArchive x = Check.strip(4);
        Check.due("16: first", () -> x.canFold(0), true);
        Check.index("16: above", () -> x.canFold(1));
        Check.index("16: below", () -> x.canFold(-1));
        foldAll(x, 0, 1, 1);
        Check.due("16: would cross", () -> x.canFold(0), false);
        Check.due("16: would cross above", () -> x.canFold(3), false);
        Check.due("16: changes nothing", () -> x.foldedCount(), 3);
        x.fold(2);
        Check.due("16: all folded", () -> x.canFold(0), false);
        Check.due("16: all folded, top", () -> x.canFold(4), false);
        Check.index("16: above all", () -> x.canFold(5));
        Check.missing("16: is no denial", () -> x.denial());
        Check.due("16: no sections", () -> new FoldedArchive().canFold(0), false);
    }

    private static void completions() {
        int[] foldings = {1, 1, 2, 6, 16, 50, 144, 462};
        for (int sections = 0; sections < foldings.length; sections++) {
            FoldedArchive x = Check.strip(sections);
            Check.due("17: strip of " + sections, () -> x.completions(), foldings[sections]);
            Check.due("18: strip of " + sections, () -> x.completionsByOrders(), foldings[sections]);
        }
        FoldedArchive x = Check.strip(7);
        foldAll(x, 0);
        Check.due("17: the first alone rules nothing out", () -> x.completions(), 462);
        Check.due("18: the first alone rules nothing out", () -> x.completionsByOrders(), 462);
        x.fold(1);
        Check.due("17: half of them", () -> x.completions(), 231);
        Check.due("18: half of them", () -> x.completionsByOrders(), 231);
        Check.due("17: folds nothing", () -> x.foldedCount(), 2);
        foldAll(x, 2, 2, 2, 3);
        Check.due("17: sections before the last", () -> x.completions(), waysFor(x));
        Check.due("18: sections before the last", () -> x.completionsByOrders(), waysFor(x));
        x.fold(4);
        Check.due("17: all folded", () -> x.completions(), 1);
        Check.due("18: all folded", () -> x.completionsByOrders(), 1);
        Check.due("17: is no change", () -> x.undoCount(), 8);
    }

    // By hand: after 0 2 1, section 3 goes next to 2 on either side, for crease 0 spans from the bottom to the top.
    private static void completionsOfPiles() {
        FoldedArchive x = Check.strip(4);
        foldAll(x, 0, 1, 1);
        completed("021 of 4", x, 2);
        FoldedArchive y = Check.strip(4);
        foldAll(y, 0, 0, 0);
        completed("210 of 4", y, 3);
        FoldedArchive z = Check.strip(5);
        foldAll(z, 0, 1, 1, 1);
        completed("0321 of 5", z, 4);
        FoldedArchive deep = Check.strip(7);
        foldAll(deep, 0, 1, 1, 1);
        completed("0321 of 7", deep, new Brute(7, "0321").count());
        FoldedArchive other = Check.strip(7);
        foldAll(other, 0, 1, 2);
        completed("012 of 7", other, new Brute(7, "012").count());
        FoldedArchive third = Check.strip(7);
        foldAll(third, 0, 0, 1);
        completed("120 of 7", third, new Brute(7, "120").count());
    }

    private static void completed(String told, FoldedArchive x, int due) {
        Check.due("18: " + told, () -> x.completionsByOrders(), due);
        Check.due("17: " + told, () -> x.completions(), due);
        Check.due("18: " + told + " once more", () -> x.completionsByOrders(), due);
    }

    /** Tries each permutation whole, written as text. */
    private static final class Brute {
        private final int total;
        private final String pile;

        Brute(int total, String pile) {
            this.total = total;
            this.pile = pile;
        }

        int count() {
            return count("");
        }

        private int count(String order) {
            if (order.length() == total) {
                return order.replaceAll("[^" + pile + "]", "").equals(pile) && !crossed(order) ? 1 : 0;
            }
            int found = 0;
            for (char section = '0'; section < '0' + total; section++) {
                found += order.indexOf(section) < 0 ? count(order + section) : 0;
            }
            return found;
        }

        private static boolean crossed(String order) {
            for (int crease = 0; crease + 1 < order.length(); crease++) {
                for (int other = crease % 2; other + 1 < order.length(); other += 2) {
                    int[] span = span(order, crease);
                    int[] next = span(order, other);
                    if (span[0] < next[0] && next[0] < span[1] && span[1] < next[1]) {
                        return true;
                    }
                }
            }
            return false;
        }

        private static int[] span(String order, int crease) {
            int from = order.indexOf('0' + crease);
            int to = order.indexOf('1' + crease);
            return new int[] {Math.min(from, to), Math.max(from, to)};
        }
    }

    private static int waysFor(FoldedArchive x) {
        int ways = 0;
        for (int layer = 0; layer <= x.foldedCount(); layer++) {
            ways += x.canFold(layer) ? 1 : 0;
        }
        return ways;
    }
}
