/** Promises 19 to 30. */
public final class PipesTest {
    public static void main(String[] args) {
        laying();
        removing();
        breaking();
        reading();
        flows();
        flowsAroundTheEnds();
        takingBack(1, 2, 3, 4, 5);
        takingBack(5, 4, 3, 2, 1);
        takingBack(3, 5, 1, 4, 2);
        losses();
        Check.end();
    }

    private static void laying() {
        FoldedArchive x = Check.strip(3);
        Check.index("19: from below", () -> x.layPipe(-1, 0, 5));
        Check.index("19: from above", () -> x.layPipe(3, 0, 5));
        Check.index("19: to below", () -> x.layPipe(0, -1, 5));
        Check.index("19: to above, before the capacity", () -> x.layPipe(0, 3, 0));
        Check.index("19: no such section before both the same", () -> x.layPipe(3, 3, 5));
        Check.argument("19: both the same", () -> x.layPipe(1, 1, 5));
        Check.argument("19: no capacity", () -> x.layPipe(0, 1, 0));
        Check.argument("19: too much capacity", () -> x.layPipe(0, 1, 21));
        Check.due("19: least capacity", () -> x.layPipe(0, 1, 1), 0);
        Check.due("19: greatest capacity", () -> x.layPipe(0, 1, 20), 1);
        for (int pipe = 2; pipe < 10; pipe++) {
            int index = pipe;
            Check.due("19: index", () -> x.layPipe(2, index % 2, index), index);
            Check.due("23: count", () -> x.pipeCount(), index + 1);
        }
        Check.denied("19: an eleventh one", x, () -> x.layPipe(0, 1, 1), 1, 10);
        Check.argument("19: capacity before denial", () -> x.layPipe(0, 1, 21));
        Check.due("19: not broken", () -> x.isBroken(9), false);
        Check.index("19: no sections", () -> new FoldedArchive().layPipe(0, 1, 1));
    }

    private static void removing() {
        FoldedArchive x = Check.strip(3);
        Check.index("20: none", () -> x.removePipe(0));
        x.layPipe(0, 1, 3);
        x.layPipe(1, 2, 4);
        x.layPipe(2, 0, 5);
        x.breakPipe(2);
        Check.index("20: below", () -> x.removePipe(-1));
        Check.index("20: above", () -> x.removePipe(3));
        Check.due("20: two left", () -> x.removePipe(1), 2);
        Check.due("23: two", () -> x.pipeCount(), 2);
        Check.due("20: the earlier stays", () -> x.capacity(0), 3);
        Check.due("20: from", () -> x.pipeFrom(1), 2);
        Check.due("20: to", () -> x.pipeTo(1), 0);
        Check.due("20: capacity", () -> x.capacity(1), 5);
        Check.due("20: broken", () -> x.isBroken(1), true);
        Check.due("20: a new one is whole", () -> x.layPipe(0, 2, 6), 2);
        Check.due("20: a new one is whole", () -> x.isBroken(2), false);
        Check.due("20: the last", () -> x.removePipe(2), 2);
        Check.due("20: the first", () -> x.removePipe(0), 1);
        Check.due("20: the only one", () -> x.removePipe(0), 0);
        Check.index("20: none left", () -> x.removePipe(0));
    }

    private static void breaking() {
        FoldedArchive x = Check.strip(2);
        x.layPipe(0, 1, 3);
        x.layPipe(1, 0, 17);
        Check.denied("22: is whole", x, () -> x.mendPipe(1), 6, 17);
        Check.due("21: one", () -> x.breakPipe(1), 1);
        Check.denied("21: is broken", x, () -> x.breakPipe(1), 6, 17);
        Check.due("27: broken", () -> x.isBroken(1), true);
        Check.due("27: whole", () -> x.isBroken(0), false);
        Check.due("21: two", () -> x.breakPipe(0), 2);
        Check.due("22: one left", () -> x.mendPipe(1), 1);
        Check.due("27: mended", () -> x.isBroken(1), false);
        Check.denied("22: is whole again", x, () -> x.mendPipe(1), 6, 17);
        Check.due("22: none left", () -> x.mendPipe(0), 0);
        Check.index("21: below", () -> x.breakPipe(-1));
        Check.index("21: above", () -> x.breakPipe(2));
        Check.index("22: below", () -> x.mendPipe(-1));
        Check.index("22: above", () -> x.mendPipe(2));
    }

    private static void reading() {
        FoldedArchive x = Check.strip(4);
        x.layPipe(3, 1, 20);
        x.layPipe(0, 2, 7);
        Check.due("24: first", () -> x.pipeFrom(0), 3);
        Check.due("25: first", () -> x.pipeTo(0), 1);
        Check.due("26: first", () -> x.capacity(0), 20);
        Check.due("24: second", () -> x.pipeFrom(1), 0);
        Check.due("25: second", () -> x.pipeTo(1), 2);
        Check.due("26: second", () -> x.capacity(1), 7);
        x.breakPipe(1);
        Check.due("26: broken", () -> x.capacity(1), 7);
        for (int pipe : new int[] {-1, 2, Integer.MIN_VALUE, Integer.MAX_VALUE}) {
            Check.index("24: " + pipe, () -> x.pipeFrom(pipe));
            Check.index("25: " + pipe, () -> x.pipeTo(pipe));
            Check.index("26: " + pipe, () -> x.capacity(pipe));
            Check.index("27: " + pipe, () -> x.isBroken(pipe));
            Check.index("30: " + pipe, () -> x.lossOf(pipe));
        }
    }

    private static void flow(String told, FoldedArchive x, int due) {
        Check.due("28: " + told, () -> x.greatestFlow(), due);
        Check.due("29: " + told, () -> x.smallestCut(), due);
    }

    private static void flows() {
        FoldedArchive none = new FoldedArchive();
        Check.denied("28: no sections", none, () -> none.greatestFlow(), 7, 0);
        FoldedArchive one = Check.strip(1);
        Check.denied("28: one section", one, () -> one.greatestFlow(), 7, 1);
        FoldedArchive other = Check.strip(1);
        Check.denied("29: one section", other, () -> other.smallestCut(), 7, 1);
        FoldedArchive x = Check.strip(2);
        flow("no pipes", x, 0);
        for (int pipe = 0; pipe < 10; pipe++) {
            x.layPipe(0, 1, 20);
        }
        flow("as much as there can be", x, 200);
        x.breakPipe(4);
        flow("without the broken one", x, 180);
        x.addSection();
        flow("a new last section", x, 0);
        Check.due("28: is no change", () -> x.undoCount(), 8);
    }

    private static void flowsAroundTheEnds() {
        FoldedArchive x = Check.strip(4);
        x.layPipe(0, 1, 10);
        x.layPipe(1, 2, 10);
        x.layPipe(2, 3, 10);
        flow("one way", x, 10);
        x.layPipe(0, 2, 10);
        x.layPipe(1, 3, 10);
        flow("both ways", x, 20);
        x.layPipe(3, 0, 20);
        x.layPipe(3, 1, 20);
        x.layPipe(2, 0, 20);
        flow("what flows back doesn't count", x, 20);
        x.layPipe(1, 3, 5);
        flow("several pipes between the same sections", x, 20);
        x.layPipe(0, 1, 3);
        flow("several pipes from the first section", x, 23);
        FoldedArchive y = Check.strip(6);
        y.layPipe(0, 1, 10);
        y.layPipe(1, 3, 4);
        y.layPipe(1, 2, 8);
        y.layPipe(0, 3, 5);
        y.layPipe(2, 5, 6);
        y.layPipe(2, 4, 9);
        y.layPipe(3, 4, 7);
        y.layPipe(4, 5, 7);
        flow("six sections", y, 13);
    }

    // The way 0 a b 6 is a shortest one, but the greatest flow doesn't use the pipe from a to b.
    private static void takingBack(int a, int b, int c, int d, int e) {
        FoldedArchive x = Check.strip(7);
        x.layPipe(0, a, 1);
        x.layPipe(a, b, 1);
        x.layPipe(b, 6, 1);
        flow("a shortest way", x, 1);
        x.layPipe(0, c, 1);
        x.layPipe(c, d, 1);
        x.layPipe(d, b, 1);
        flow("a second way to b", x, 1);
        x.layPipe(a, e, 1);
        x.layPipe(e, 6, 1);
        flow("a way that takes a pipe back", x, 2);
    }

    private static void losses() {
        FoldedArchive x = Check.strip(3);
        x.layPipe(0, 1, 10);
        x.layPipe(1, 2, 4);
        x.layPipe(0, 2, 3);
        x.layPipe(2, 0, 9);
        int[] due = {4, 4, 3, 0};
        for (int pipe = 0; pipe < due.length; pipe++) {
            int asked = pipe;
            Check.due("30: pipe " + pipe, () -> x.lossOf(asked), due[pipe]);
        }
        Check.due("30: breaks nothing", () -> x.isBroken(0), false);
        x.breakPipe(1);
        Check.due("30: the broken one", () -> x.lossOf(1), 0);
        Check.due("30: leads nowhere now", () -> x.lossOf(0), 0);
        Check.due("30: the only one left", () -> x.lossOf(2), 3);
    }
}
