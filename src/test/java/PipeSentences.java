/** The sentences on pipes: of the terms, and promises 19 to 30. */
final class PipeSentences extends Sentences {
    static void test() {
        thePipes();
        theFlow();
        theCut();
        layPipe();
        removePipe();
        breakPipe();
        mendPipe();
        pipeCount();
        ends();
        capacity();
        isBroken();
        greatestFlow();
        smallestCut();
        lossOf();
    }

    /** Ten pipes, of which number p leads from section p % 6 to the next one and has the capacity p + 1. */
    private static FoldedArchive ten() {
        FoldedArchive archive = Check.strip(7);
        for (int pipe = 0; pipe < 10; pipe++) {
            archive.layPipe(pipe % 6, pipe % 6 + 1, pipe + 1);
        }
        return archive;
    }

    private static void thePipes() {
        terms("At most 10 pipes lead from a section to another one", () -> {
            FoldedArchive x = Check.strip(2);
            Check.argument("to the same one", () -> x.layPipe(1, 1, 5));
            for (int pipe = 0; pipe < 10; pipe++) {
                int due = pipe;
                Check.due("in the order", () -> x.layPipe(0, 1, due + 1), due);
            }
            Check.due("an eleventh", () -> x.layPipe(0, 1, 11), "throws.UnsupportedOperationException");
            Check.due("the first", () -> x.capacity(0), 1);
            Check.due("the last", () -> x.capacity(9), 10);
        });
        terms("when a pipe is removed", () -> {
            for (int removed : new int[] {0, 4, 9}) {
                FoldedArchive x = ten();
                x.breakPipe(5);
                x.removePipe(removed);
                for (int pipe = 0; pipe < 9; pipe++) {
                    int asked = pipe;
                    int before = pipe < removed ? pipe : pipe + 1;
                    String told = "without " + removed + ", pipe " + pipe;
                    Check.due(told + " from", () -> x.pipeFrom(asked), before % 6);
                    Check.due(told + " to", () -> x.pipeTo(asked), before % 6 + 1);
                    Check.due(told + " capacity", () -> x.capacity(asked), before + 1);
                    Check.due(told + " broken", () -> x.isBroken(asked), before == 5);
                }
                Check.index("no tenth", () -> x.capacity(9));
            }
        });
        terms("Several pipes can lead", () -> {
            FoldedArchive x = piped(2, 3, 3, 4);
            Check.due("three", () -> x.pipeCount(), 3);
            Check.due("all of them", () -> x.greatestFlow(), 10);
            Check.due("all of them are cut", () -> x.smallestCut(), 10);
            Check.due("and the other way", () -> x.layPipe(1, 0, 5), 3);
        });
        terms("A pipe has a capacity from 1 to 20", () -> {
            FoldedArchive x = Check.strip(2);
            Check.due("least", () -> x.layPipe(0, 1, 1), 0);
            Check.due("greatest", () -> x.layPipe(0, 1, 20), 1);
            Check.argument("below", () -> x.layPipe(0, 1, 0));
            Check.argument("above", () -> x.layPipe(0, 1, 21));
            Check.due("initially whole", () -> x.isBroken(0), false);
            x.breakPipe(1);
            Check.due("broken", () -> x.isBroken(1), true);
            x.removePipe(1);
            x.layPipe(1, 0, 20);
            Check.due("initially whole, where a broken one was", () -> x.isBroken(1), false);
        });
    }

    private static void theFlow() {
        terms("A flow gives each pipe", () -> {
            FoldedArchive x = Check.strip(3);
            x.layPipe(0, 1, 20);
            Check.due("nothing flows out of 1", () -> x.greatestFlow(), 0);
            x.layPipe(1, 2, 1);
            Check.due("as many out as in", () -> x.greatestFlow(), 1);
            x.layPipe(1, 2, 20);
            Check.due("up to the capacity", () -> x.greatestFlow(), 20);
            x.breakPipe(2);
            Check.due("not through a broken one", () -> x.greatestFlow(), 1);
            x.breakPipe(0);
            Check.due("from 0 units", () -> x.greatestFlow(), 0);
            FoldedArchive back = Check.strip(3);
            back.layPipe(1, 0, 20);
            back.layPipe(1, 2, 20);
            Check.due("not against a pipe", () -> back.greatestFlow(), 0);
        });
        terms("The size of a flow", () -> {
            FoldedArchive x = piped(2, 7);
            x.layPipe(1, 0, 20);
            Check.due("what could flow out of the last need not", () -> x.greatestFlow(), 7);
            x.removePipe(0);
            Check.due("nor makes it less than nothing", () -> x.greatestFlow(), 0);
            FoldedArchive y = Check.strip(3);
            y.layPipe(1, 2, 5);
            y.layPipe(2, 1, 5);
            Check.due("round and round", () -> y.greatestFlow(), 0);
            y.layPipe(0, 2, 2);
            Check.due("into the last", () -> y.greatestFlow(), 2);
        });
    }

    private static void theCut() {
        terms("A cut is a set of sections that contains the first", () -> {
            FoldedArchive x = Check.strip(3);
            x.layPipe(0, 1, 9);
            x.layPipe(1, 2, 4);
            Check.due("the first two", () -> x.smallestCut(), 4);
            FoldedArchive y = Check.strip(3);
            y.layPipe(0, 1, 4);
            y.layPipe(1, 2, 9);
            Check.due("the first alone", () -> y.smallestCut(), 4);
            FoldedArchive z = Check.strip(7);
            z.layPipe(0, 5, 8);
            z.layPipe(5, 6, 3);
            z.layPipe(0, 6, 2);
            Check.due("of seven, all but the last", () -> z.smallestCut(), 5);
            FoldedArchive two = piped(2, 6);
            Check.due("not none, nor all", () -> two.smallestCut(), 6);
        });
        terms("its size is the sum of the capacities", () -> {
            FoldedArchive x = piped(2, 5, 6, 7);
            Check.due("sum", () -> x.smallestCut(), 18);
            x.breakPipe(1);
            Check.due("not of the broken ones", () -> x.smallestCut(), 12);
            x.layPipe(1, 0, 20);
            Check.due("not of those that lead into the set", () -> x.smallestCut(), 12);
            FoldedArchive y = Check.strip(4);
            y.layPipe(0, 1, 20);
            y.layPipe(1, 3, 3);
            y.layPipe(0, 2, 2);
            y.layPipe(2, 3, 20);
            y.layPipe(0, 3, 1);
            Check.due("not of those within the set", () -> y.smallestCut(), 6);
        });
    }

    private static void layPipe() {
        promise(19, "Lays a pipe", () -> {
            FoldedArchive x = Check.strip(3);
            x.layPipe(2, 1, 13);
            Check.due("one", () -> x.pipeCount(), 1);
            Check.due("from", () -> x.pipeFrom(0), 2);
            Check.due("to", () -> x.pipeTo(0), 1);
            Check.due("capacity", () -> x.capacity(0), 13);
            Check.due("whole", () -> x.isBroken(0), false);
        });
        promise(19, "- `from`", () -> {
            FoldedArchive x = Check.strip(7);
            x.layPipe(0, 3, 1);
            x.layPipe(6, 3, 1);
            Check.due("the first", () -> x.pipeFrom(0), 0);
            Check.due("the last", () -> x.pipeFrom(1), 6);
        });
        promise(19, "- `to`", () -> {
            FoldedArchive x = Check.strip(7);
            x.layPipe(3, 0, 1);
            x.layPipe(3, 6, 1);
            Check.due("the first", () -> x.pipeTo(0), 0);
            Check.due("the last", () -> x.pipeTo(1), 6);
        });
        promise(19, "- `capacity`", () -> {
            FoldedArchive x = Check.strip(2);
            x.layPipe(0, 1, 1);
            x.layPipe(0, 1, 20);
            Check.due("the least", () -> x.capacity(0), 1);
            Check.due("the greatest", () -> x.capacity(1), 20);
            Check.argument("below the least", () -> x.layPipe(0, 1, 0));
            Check.argument("above the greatest", () -> x.layPipe(0, 1, 21));
        });
        promise(19, "Returns the index of the pipe", () -> {
            FoldedArchive x = Check.strip(2);
            for (int pipe = 0; pipe < 10; pipe++) {
                int due = pipe;
                Check.due("index", () -> x.layPipe(1, 0, 2), due);
            }
            x.removePipe(3);
            Check.due("after removing another one", () -> x.layPipe(0, 1, 2), 9);
        });
        promise(19, "Throws `IndexOutOfBoundsException`", () -> {
            for (int sections : new int[] {0, 1, 2, 7}) {
                FoldedArchive x = Check.strip(sections);
                for (int section : outside(sections)) {
                    Check.index("from " + section + " of " + sections, () -> x.layPipe(section, 0, 1));
                    Check.index("to " + section + " of " + sections, () -> x.layPipe(0, section, 1));
                    Check.index("both " + section + " of " + sections, () -> x.layPipe(section, section, 1));
                }
                Check.due("none laid", () -> x.pipeCount(), 0);
            }
        });
        promise(19, "Throws `IllegalArgumentException`", () -> {
            FoldedArchive x = Check.strip(7);
            Check.argument("both the first", () -> x.layPipe(0, 0, 5));
            Check.argument("both the last", () -> x.layPipe(6, 6, 5));
            for (int capacity : new int[] {0, -1, -20, 21, 100, Integer.MIN_VALUE, Integer.MAX_VALUE}) {
                Check.argument("capacity " + capacity, () -> x.layPipe(0, 6, capacity));
            }
            Check.due("none laid", () -> x.pipeCount(), 0);
        });
        promise(19, "Throws `UnsupportedOperationException`", () -> {
            FoldedArchive x = ten();
            Check.missing("ten are not denied", () -> x.denial());
            Check.denied("eleven", x, () -> x.layPipe(0, 1, 1), 1, 10);
            Check.due("still ten", () -> x.pipeCount(), 10);
            x.breakPipe(0);
            Check.denied("a broken one takes room", x, () -> x.layPipe(0, 1, 1), 1, 10);
            x.removePipe(0);
            Check.due("room again", () -> x.layPipe(0, 1, 1), 9);
        });
    }

    private static void removePipe() {
        promise(20, "Removes a pipe", () -> {
            FoldedArchive x = piped(2, 3, 4, 5);
            x.removePipe(1);
            Check.due("the one before stays", () -> x.capacity(0), 3);
            Check.due("the one behind follows it", () -> x.capacity(1), 5);
            Check.index("no third", () -> x.capacity(2));
            Check.due("it carries no water", () -> x.greatestFlow(), 8);
        });
        promise(20, "- `pipe`", () -> {
            FoldedArchive x = ten();
            x.removePipe(9);
            Check.due("the last", () -> x.capacity(8), 9);
            x.removePipe(0);
            Check.due("the first", () -> x.capacity(0), 2);
        });
        promise(20, "Returns the number of pipes afterwards", () -> {
            FoldedArchive x = ten();
            for (int left = 9; left >= 0; left--) {
                Check.due("left", () -> x.removePipe(0), left);
            }
        });
        noSuchPipe(20, (x, pipe) -> x.removePipe(pipe));
    }

    private static void breakPipe() {
        promise(21, "Breaks a pipe", () -> {
            FoldedArchive x = piped(2, 3, 4, 5);
            x.breakPipe(1);
            Check.due("broken", () -> x.isBroken(1), true);
            Check.due("not the one before", () -> x.isBroken(0), false);
            Check.due("not the one behind", () -> x.isBroken(2), false);
            Check.due("still a pipe", () -> x.pipeCount(), 3);
        });
        promise(21, "- `pipe`", () -> {
            FoldedArchive x = ten();
            x.breakPipe(0);
            x.breakPipe(9);
            Check.due("the first", () -> x.isBroken(0), true);
            Check.due("the last", () -> x.isBroken(9), true);
        });
        promise(21, "Returns the number of broken pipes afterwards", () -> {
            FoldedArchive x = ten();
            for (int count = 1; count <= 10; count++) {
                int pipe = 10 - count;
                Check.due("broken", () -> x.breakPipe(pipe), count);
            }
        });
        noSuchPipe(21, (x, pipe) -> x.breakPipe(pipe));
        promise(21, "Throws `UnsupportedOperationException`", () -> {
            FoldedArchive x = piped(2, 1, 20);
            x.breakPipe(0);
            Check.denied("the least one is broken", x, () -> x.breakPipe(0), 6, 1);
            x.breakPipe(1);
            Check.denied("the greatest one is broken", x, () -> x.breakPipe(1), 6, 20);
            x.mendPipe(1);
            Check.due("mended, it breaks again", () -> x.breakPipe(1), 2);
        });
    }

    private static void mendPipe() {
        promise(22, "Mends a pipe", () -> {
            FoldedArchive x = piped(2, 3, 4, 5);
            x.breakPipe(0);
            x.breakPipe(1);
            x.breakPipe(2);
            x.mendPipe(1);
            Check.due("whole", () -> x.isBroken(1), false);
            Check.due("not the one before", () -> x.isBroken(0), true);
            Check.due("not the one behind", () -> x.isBroken(2), true);
            Check.due("it carries water", () -> x.greatestFlow(), 4);
        });
        promise(22, "- `pipe`", () -> {
            FoldedArchive x = ten();
            x.breakPipe(0);
            x.breakPipe(9);
            x.mendPipe(9);
            Check.due("the last", () -> x.isBroken(9), false);
            Check.due("not yet the first", () -> x.isBroken(0), true);
            x.mendPipe(0);
            Check.due("the first", () -> x.isBroken(0), false);
        });
        promise(22, "Returns the number of broken pipes afterwards", () -> {
            FoldedArchive x = ten();
            for (int pipe = 0; pipe < 10; pipe++) {
                x.breakPipe(pipe);
            }
            for (int left = 9; left >= 0; left--) {
                int pipe = left;
                Check.due("broken", () -> x.mendPipe(pipe), left);
            }
        });
        noSuchPipe(22, (x, pipe) -> x.mendPipe(pipe));
        promise(22, "Throws `UnsupportedOperationException`", () -> {
            FoldedArchive x = piped(2, 1, 20);
            Check.denied("the least one is whole", x, () -> x.mendPipe(0), 6, 1);
            Check.denied("the greatest one is whole", x, () -> x.mendPipe(1), 6, 20);
            x.breakPipe(1);
            x.mendPipe(1);
            Check.denied("mended already", x, () -> x.mendPipe(1), 6, 20);
        });
    }

    private static void pipeCount() {
        promise(23, "Returns the number of pipes", () -> {
            FoldedArchive x = Check.strip(2);
            for (int count = 0; count < 10; count++) {
                int due = count;
                Check.due("from none", () -> x.pipeCount(), due);
                x.layPipe(0, 1, 1);
            }
            Check.due("to all", () -> x.pipeCount(), 10);
            Check.answerOf(() -> x.layPipe(0, 1, 1));
            Check.due("not the denied one", () -> x.pipeCount(), 10);
            x.breakPipe(4);
            Check.due("the broken one, too", () -> x.pipeCount(), 10);
            x.removePipe(4);
            Check.due("not the removed one", () -> x.pipeCount(), 9);
        });
    }

    private static void ends() {
        promise(24, "Returns the section from which", () -> {
            FoldedArchive x = ten();
            for (int pipe = 0; pipe < 10; pipe++) {
                int asked = pipe;
                Check.due("pipe " + pipe, () -> x.pipeFrom(asked), asked % 6);
            }
        });
        promise(24, "- `pipe`", () -> {
            FoldedArchive x = ten();
            Check.due("the first", () -> x.pipeFrom(0), 0);
            Check.due("the last", () -> x.pipeFrom(9), 3);
        });
        promise(24, "Returns the number of the section", () -> {
            FoldedArchive x = Check.strip(7);
            x.layPipe(6, 0, 4);
            Check.due("the highest", () -> x.pipeFrom(0), 6);
            x.layPipe(0, 6, 4);
            Check.due("the lowest", () -> x.pipeFrom(1), 0);
        });
        noSuchPipe(24, (x, pipe) -> x.pipeFrom(pipe));
        promise(25, "Returns the section to which", () -> {
            FoldedArchive x = Check.strip(7);
            for (int pipe = 0; pipe < 6; pipe++) {
                int to = pipe;
                x.layPipe(6, to, 2);
                Check.due("pipe " + pipe, () -> x.pipeTo(to), to);
            }
        });
        promise(25, "- `pipe`", () -> {
            FoldedArchive x = ten();
            x.removePipe(0);
            x.layPipe(6, 0, 1);
            Check.due("the first", () -> x.pipeTo(0), 2);
            Check.due("the last", () -> x.pipeTo(9), 0);
        });
        promise(25, "Returns the number of the section", () -> {
            FoldedArchive x = Check.strip(7);
            x.layPipe(6, 0, 4);
            Check.due("the lowest", () -> x.pipeTo(0), 0);
            x.layPipe(0, 6, 4);
            Check.due("the highest", () -> x.pipeTo(1), 6);
        });
        noSuchPipe(25, (x, pipe) -> x.pipeTo(pipe));
    }

    private static void capacity() {
        promise(26, "Returns the capacity of a pipe, broken or not", () -> {
            FoldedArchive x = piped(2, 17);
            Check.due("not broken", () -> x.capacity(0), 17);
            x.breakPipe(0);
            Check.due("broken", () -> x.capacity(0), 17);
            x.mendPipe(0);
            Check.due("mended", () -> x.capacity(0), 17);
        });
        promise(26, "- `pipe`", () -> {
            FoldedArchive x = ten();
            Check.due("the first", () -> x.capacity(0), 1);
            Check.due("the last", () -> x.capacity(9), 10);
        });
        promise(26, "Returns the capacity.", () -> {
            for (int capacity = 1; capacity <= 20; capacity++) {
                FoldedArchive x = piped(2, capacity);
                Check.due("each of them", () -> x.capacity(0), capacity);
            }
        });
        noSuchPipe(26, (x, pipe) -> x.capacity(pipe));
    }

    private static void isBroken() {
        promise(27, "Returns whether a pipe is broken", () -> {
            FoldedArchive x = ten();
            x.breakPipe(3);
            for (int pipe = 0; pipe < 10; pipe++) {
                int asked = pipe;
                Check.due("pipe " + pipe, () -> x.isBroken(asked), asked == 3);
            }
        });
        promise(27, "- `pipe`", () -> {
            FoldedArchive x = ten();
            x.breakPipe(9);
            Check.due("not the first", () -> x.isBroken(0), false);
            Check.due("the last", () -> x.isBroken(9), true);
            x.breakPipe(0);
            Check.due("the first", () -> x.isBroken(0), true);
        });
        promise(27, "Returns whether it is broken", () -> {
            FoldedArchive x = piped(2, 5);
            Check.due("new", () -> x.isBroken(0), false);
            x.breakPipe(0);
            Check.due("broken", () -> x.isBroken(0), true);
            x.mendPipe(0);
            Check.due("mended", () -> x.isBroken(0), false);
        });
        noSuchPipe(27, (x, pipe) -> x.isBroken(pipe));
    }

    /** The way 0 a b 6 is a shortest one, but it blocks the greatest flow until its pipe from a to b is taken back. */
    private static FoldedArchive blocked(int a, int b, int c, int d, int e) {
        FoldedArchive archive = Check.strip(7);
        int[] ends = {0, a, a, b, b, 6, 0, c, c, d, d, b, a, e, e, 6};
        for (int end = 0; end < ends.length; end += 2) {
            archive.layPipe(ends[end], ends[end + 1], 1);
        }
        return archive;
    }

    private static void greatestFlow() {
        promise(28, "Returns the size of a greatest flow", () -> {
            Check.due("one way blocks another", () -> blocked(1, 2, 3, 4, 5).greatestFlow(), 2);
            Check.due("one way blocks another, backwards", () -> blocked(5, 4, 3, 2, 1).greatestFlow(), 2);
            FoldedArchive x = Check.strip(4);
            x.layPipe(0, 1, 10);
            x.layPipe(1, 2, 1);
            x.layPipe(1, 3, 10);
            x.layPipe(0, 2, 10);
            x.layPipe(2, 3, 10);
            Check.due("two ways", () -> x.greatestFlow(), 20);
            Check.due("is no change", () -> x.undoCount(), 8);
            Check.due("nothing flows yet", () -> x.greatestFlow(), 20);
        });
        promise(28, "Returns the size.", () -> {
            FoldedArchive x = Check.strip(2);
            Check.due("no pipes", () -> x.greatestFlow(), 0);
            for (int pipe = 1; pipe <= 10; pipe++) {
                x.layPipe(0, 1, 20);
                int due = 20 * pipe;
                Check.due("up to the greatest of all", () -> x.greatestFlow(), due);
            }
            FoldedArchive y = Check.strip(7);
            for (int section = 0; section < 6; section++) {
                y.layPipe(section, section + 1, 20 - section);
            }
            Check.due("through all sections", () -> y.greatestFlow(), 15);
        });
        promise(28, "Throws `UnsupportedOperationException`", () -> {
            FoldedArchive none = new FoldedArchive();
            Check.denied("no sections", none, () -> none.greatestFlow(), 7, 0);
            FoldedArchive one = Check.strip(1);
            Check.denied("one section", one, () -> one.greatestFlow(), 7, 1);
            FoldedArchive two = Check.strip(2);
            Check.due("two sections", () -> two.greatestFlow(), 0);
            Check.missing("are not denied", () -> two.denial());
        });
    }

    private static void smallestCut() {
        promise(29, "Returns the size of a smallest cut", () -> {
            FoldedArchive x = Check.strip(7);
            x.layPipe(0, 1, 20);
            x.layPipe(0, 2, 20);
            x.layPipe(1, 3, 2);
            x.layPipe(2, 4, 3);
            x.layPipe(3, 5, 20);
            x.layPipe(4, 5, 20);
            x.layPipe(5, 6, 20);
            Check.due("in the middle", () -> x.smallestCut(), 5);
            x.layPipe(4, 1, 20);
            Check.due("what leads back doesn't count", () -> x.smallestCut(), 5);
            Check.due("is no change", () -> x.undoCount(), 8);
        });
        promise(29, "It always equals greatestFlow", () -> {
            Check.due("one way blocks another", () -> blocked(1, 2, 3, 4, 5).smallestCut(), 2);
            Check.due("one way blocks another, backwards", () -> blocked(5, 4, 3, 2, 1).smallestCut(), 2);
            FoldedArchive x = ten();
            for (int pipe = 0; pipe < 10; pipe++) {
                Check.due("with " + pipe + " broken ones", () -> x.smallestCut(), x.greatestFlow());
                x.breakPipe(pipe);
            }
            Check.due("all broken", () -> x.smallestCut(), x.greatestFlow());
        });
        promise(29, "Returns the size.", () -> {
            FoldedArchive x = Check.strip(2);
            Check.due("no pipes", () -> x.smallestCut(), 0);
            for (int pipe = 1; pipe <= 10; pipe++) {
                x.layPipe(0, 1, 20);
                int due = 20 * pipe;
                Check.due("up to the greatest of all", () -> x.smallestCut(), due);
            }
        });
        promise(29, "Throws `UnsupportedOperationException`", () -> {
            FoldedArchive none = new FoldedArchive();
            Check.denied("no sections", none, () -> none.smallestCut(), 7, 0);
            FoldedArchive one = Check.strip(1);
            Check.denied("one section", one, () -> one.smallestCut(), 7, 1);
            FoldedArchive two = Check.strip(2);
            Check.due("two sections", () -> two.smallestCut(), 0);
            Check.missing("are not denied", () -> two.denial());
        });
    }

    private static void lossOf() {
        promise(30, "Returns by how much the greatest flow", () -> {
            FoldedArchive x = Check.strip(3);
            x.layPipe(0, 1, 10);
            x.layPipe(1, 2, 4);
            x.layPipe(0, 1, 7);
            x.layPipe(0, 2, 3);
            x.layPipe(2, 0, 9);
            int[] due = {0, 4, 0, 3, 0};
            for (int pipe = 0; pipe < due.length; pipe++) {
                int asked = pipe;
                Check.due("pipe " + pipe, () -> x.lossOf(asked), due[pipe]);
            }
            Check.due("breaks none", () -> x.isBroken(1), false);
            x.removePipe(2);
            Check.due("with no way besides", () -> x.lossOf(0), 4);
        });
        promise(30, "- `pipe`", () -> {
            FoldedArchive x = piped(2, 1, 2, 3, 4, 5, 6, 7, 8, 9, 10);
            Check.due("the first", () -> x.lossOf(0), 1);
            Check.due("the last", () -> x.lossOf(9), 10);
        });
        promise(30, "Returns the difference, 0 if the pipe is broken", () -> {
            FoldedArchive x = piped(2, 20, 6);
            Check.due("all of its capacity", () -> x.lossOf(0), 20);
            x.breakPipe(0);
            Check.due("broken", () -> x.lossOf(0), 0);
            Check.due("the other one", () -> x.lossOf(1), 6);
            x.mendPipe(0);
            Check.due("mended", () -> x.lossOf(0), 20);
        });
        noSuchPipe(30, (x, pipe) -> x.lossOf(pipe));
    }
}
