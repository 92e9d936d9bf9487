/** The sentences on water: of the terms, and promises 31 to 38. */
final class WaterSentences extends Sentences {
    static void test() {
        draining();
        seeping();
        drain();
        seep();
        totals();
        shares();
    }

    private static FoldedArchive watered(FoldedArchive archive, int... units) {
        for (int section = 0; section < units.length; section++) {
            if (units[section] > 0) {
                archive.pour(section, units[section]);
            }
        }
        return archive;
    }

    /** The water of all sections, written from section 0 on. */
    private static String waters(FoldedArchive archive) {
        StringBuilder text = new StringBuilder();
        for (int section = 0; section < archive.sectionCount(); section++) {
            text.append(section > 0 ? " " : "").append(archive.water(section));
        }
        return text.toString();
    }

    private static void accounted(String told, FoldedArchive x) {
        int sum = 0;
        for (int section = 0; section < x.sectionCount(); section++) {
            sum += x.water(section);
        }
        int held = sum;
        Check.due(told, () -> x.poured() - x.leaked(), held);
    }

    private static void draining() {
        terms("Water that was poured is in the sections or has leaked", () -> {
            FoldedArchive x = watered(folded(3, 0, 1, 2), 99, 95, 99);
            accounted("poured", x);
            x.layPipe(0, 2, 20);
            x.layPipe(0, 2, 20);
            x.breakPipe(0);
            x.drain();
            accounted("drained into a full section", x);
            x.seep();
            accounted("seeped through a full section", x);
            Check.due("the rest leaked", () -> x.leaked(), 293 - 20 - 20 - 20);
            x.undo();
            accounted("seeped and undone", x);
        });
        terms("When the map is drained, the smaller one", () -> {
            FoldedArchive x = watered(piped(2, 20), 41);
            Check.due("the flow is smaller", () -> x.drain(), 20);
            Check.due("it left the first", () -> waters(x), "21 20");
            x.drain();
            Check.due("the water is smaller", () -> x.drain(), 1);
            Check.due("all left the first", () -> waters(x), "0 41");
            Check.due("no water", () -> x.drain(), 0);
            FoldedArchive y = watered(piped(2, 20), 20);
            Check.due("both are the same", () -> y.drain(), 20);
            FoldedArchive full = watered(piped(2, 20), 41, 95);
            Check.due("even if the last one can't hold it", () -> full.drain(), 20);
            FoldedArchive z = watered(Check.strip(3), 30, 30, 30);
            Check.due("no flow", () -> z.drain(), 0);
            Check.due("nothing moves", () -> waters(z), "30 30 30");
        });
        terms("Of this, 1 unit for each broken pipe leaks", () -> {
            FoldedArchive x = watered(piped(3), 50, 8, 7);
            x.layPipe(0, 2, 5);
            x.layPipe(2, 1, 1);
            x.layPipe(1, 0, 1);
            x.breakPipe(1);
            x.breakPipe(2);
            x.drain();
            Check.due("one for each, wherever it lies", () -> x.leaked(), 2);
            Check.due("the rest comes", () -> waters(x), "45 8 10");
            FoldedArchive y = watered(piped(2, 2, 9, 9, 9), 50);
            y.breakPipe(1);
            y.breakPipe(2);
            y.drain();
            Check.due("two pipes, but whole ones don't leak", () -> y.leaked(), 2);
            y.breakPipe(3);
            y.drain();
            Check.due("not more than there is", () -> y.leaked(), 4);
            Check.due("nothing comes", () -> waters(y), "37 9");
            y.breakPipe(0);
            Check.due("no flow", () -> y.drain(), 0);
            Check.due("nothing to leak", () -> y.leaked(), 4);
        });
        terms("the rest comes to the last section", () -> {
            FoldedArchive x = watered(piped(2, 20), 50, 79);
            x.drain();
            Check.due("exactly up to 99", () -> waters(x), "30 99");
            Check.due("nothing leaks", () -> x.leaked(), 0);
            x.drain();
            Check.due("into a full one", () -> waters(x), "10 99");
            Check.due("all leaks", () -> x.leaked(), 20);
            FoldedArchive y = watered(piped(2, 20, 1), 50, 80);
            y.breakPipe(1);
            y.drain();
            Check.due("the broken one's leak makes room", () -> waters(y), "30 99");
            Check.due("only that leaks", () -> y.leaked(), 1);
            FoldedArchive z = watered(piped(2, 20), 50, 80);
            z.drain();
            Check.due("one exceeds", () -> waters(z), "30 99");
            Check.due("one leaks", () -> z.leaked(), 1);
            FoldedArchive three = watered(Check.strip(3), 50, 40, 95);
            three.layPipe(0, 1, 20);
            three.layPipe(1, 2, 20);
            three.drain();
            Check.due("the last of three", () -> waters(three), "30 40 99");
        });
    }

    private static void seeping() {
        terms("When water seeps through the pile, the layers", () -> {
            FoldedArchive x = watered(folded(3, 0, 1, 2), 20, 20, 50);
            x.seep();
            Check.due("passes all layers at once", () -> waters(x), "20 20 20");
            Check.due("and leaks below", () -> x.leaked(), 30);
            FoldedArchive y = watered(folded(3, 0, 0, 0), 50, 20, 20);
            y.seep();
            Check.due("by layers, not by numbers", () -> waters(y), "20 20 20");
            FoldedArchive z = watered(folded(3, 0, 1), 20, 20, 50);
            z.seep();
            Check.due("not from what isn't folded", () -> waters(z), "20 20 50");
        });
        terms("From each visited section, the water that exceeds 20", () -> {
            FoldedArchive x = watered(folded(2, 0, 1), 0, 20);
            x.seep();
            Check.due("20 stay", () -> waters(x), "0 20");
            FoldedArchive y = watered(folded(2, 0, 1), 0, 21);
            y.seep();
            Check.due("one moves", () -> waters(y), "1 20");
            FoldedArchive z = watered(folded(3, 0, 1, 1), 5, 3, 6);
            z.pour(1, 18);
            z.seep();
            Check.due("to the layer below, not to the section before", () -> waters(z), "5 20 7");
            Check.due("nothing leaks", () -> z.leaked(), 0);
            FoldedArchive most = watered(folded(2, 0, 1), 0, 99);
            most.seep();
            Check.due("as much as can be", () -> waters(most), "20 20");
        });
        terms("from layer 0 it leaks", () -> {
            FoldedArchive x = watered(folded(1, 0), 20);
            Check.due("20 stay", () -> x.seep(), 0);
            x.pour(0, 1);
            Check.due("one leaks", () -> x.seep(), 1);
            Check.due("20 stay", () -> waters(x), "20");
            FoldedArchive y = watered(folded(2, 0, 0), 0, 99);
            Check.due("section 1 in layer 0", () -> y.seep(), 79);
            Check.due("not to section 0", () -> waters(y), "0 20");
        });
        terms("What would exceed 99 units in the section below leaks", () -> {
            // Five dry layers below hold more than one section can pass on, so they show what has leaked above them.
            exceeding(99, 99, 79, "0 19 20 20 20 20 20");
            exceeding(40, 79, 0, "0 19 20 20 20 20 20");
            exceeding(41, 79, 1, "0 19 20 20 20 20 20");
            exceeding(21, 98, 0, "0 19 20 20 20 20 20");
            exceeding(22, 98, 1, "0 19 20 20 20 20 20");
            exceeding(21, 99, 1, "0 19 20 20 20 20 20");
            exceeding(39, 79, 0, "0 18 20 20 20 20 20");
            FoldedArchive low = watered(folded(2, 0, 1), 99, 99);
            Check.due("above, then at the bottom", () -> low.seep(), 79 + 79);
        });
    }

    /** Seeps from section 6 in the top layer and section 5 below it through five dry ones. */
    private static void exceeding(int top, int below, int leaking, String due) {
        FoldedArchive x = watered(folded(7, 0, 1, 2, 3, 4, 5, 6), 0, 0, 0, 0, 0, below, top);
        Check.due(top + " above " + below + " leaks", () -> x.seep(), leaking);
        Check.due(top + " above " + below, () -> waters(x), due);
    }

    private static void drain() {
        promise(31, "Drains the map", () -> {
            FoldedArchive x = watered(Check.strip(3), 30, 40, 50);
            x.layPipe(0, 1, 9);
            x.layPipe(1, 2, 6);
            x.drain();
            Check.due("from the first to the last", () -> waters(x), "24 40 56");
            FoldedArchive y = watered(Check.strip(2), 30, 40);
            y.layPipe(1, 0, 9);
            y.drain();
            Check.due("not back", () -> waters(y), "30 40");
        });
        promise(31, "Returns the number of units that leave", () -> {
            FoldedArchive x = watered(piped(2, 20, 3), 30, 99);
            x.breakPipe(1);
            Check.due("though all of them leak", () -> x.drain(), 20);
            Check.due("the rest", () -> x.drain(), 10);
            Check.due("none", () -> x.drain(), 0);
        });
        promise(31, "Throws `UnsupportedOperationException`", () -> {
            FoldedArchive none = new FoldedArchive();
            Check.denied("no sections", none, () -> none.drain(), 7, 0);
            FoldedArchive one = watered(Check.strip(1), 50);
            Check.denied("one section", one, () -> one.drain(), 7, 1);
            Check.due("nothing leaves", () -> waters(one), "50");
            FoldedArchive two = Check.strip(2);
            Check.due("two sections", () -> two.drain(), 0);
            Check.missing("are not denied", () -> two.denial());
        });
    }

    private static void seep() {
        promise(32, "Lets water seep through the pile", () -> {
            FoldedArchive x = watered(Piles.made(7, "0145632"), 0, 0, 99, 0, 99, 0, 0);
            x.seep();
            Check.due("from 2 to 3 6 5 4, and on to 1 and 0", () -> waters(x), "20 20 20 20 20 20 20");
            Check.due("the rest leaked", () -> x.leaked(), 198 - 140);
        });
        promise(32, "Returns the number of units that leak", () -> {
            FoldedArchive x = watered(folded(3, 0, 1, 2), 0, 99, 99);
            Check.due("on the way and at the bottom", () -> x.seep(), 198 - 60);
            Check.due("in all", () -> x.leaked(), 138);
            Check.due("none", () -> x.seep(), 0);
            x.pour(0, 7);
            Check.due("of this time alone", () -> x.seep(), 7);
            FoldedArchive y = watered(folded(2, 0, 1), 0, 30);
            Check.due("what moves doesn't leak", () -> y.seep(), 0);
        });
        promise(32, "Throws `UnsupportedOperationException`", () -> {
            FoldedArchive none = new FoldedArchive();
            Check.denied("no sections", none, () -> none.seep(), 3, 0);
            FoldedArchive x = watered(Check.strip(7), 50);
            Check.denied("none folded", x, () -> x.seep(), 3, 7);
            Check.due("nothing seeps", () -> waters(x), "50 0 0 0 0 0 0");
            x.fold(0);
            Check.due("one folded", () -> x.seep(), 30);
        });
    }

    private static void totals() {
        promise(33, "Returns the water in all sections", () -> {
            Check.due("1 11 21 31 41 51 61", () -> marked().totalWater(), 217);
            FoldedArchive x = watered(folded(2, 0), 30, 40);
            x.seep();
            Check.due("not what leaked", () -> x.totalWater(), 60);
        });
        promise(33, "Returns the number of units", () -> {
            Check.due("no sections", () -> new FoldedArchive().totalWater(), 0);
            Check.due("no water", () -> Check.strip(7).totalWater(), 0);
            FoldedArchive x = watered(Check.strip(7), 99, 99, 99, 99, 99, 99, 99);
            Check.due("as much as can be", () -> x.totalWater(), 693);
        });
        promise(34, "Returns the same number as totalWater", () -> {
            FoldedArchive x = watered(folded(3, 0, 1, 2), 99, 99, 99);
            Check.due("poured", () -> x.totalWaterByAccounts(), 297);
            x.layPipe(0, 2, 20);
            x.drain();
            Check.due("leaked by draining", () -> x.totalWaterByAccounts(), 277);
            Check.due("the same", () -> x.totalWater(), 277);
            x.seep();
            Check.due("leaked by seeping", () -> x.totalWaterByAccounts(), 60);
            Check.due("the same", () -> x.totalWater(), 60);
            x.undo();
            Check.due("undone", () -> x.totalWaterByAccounts(), 277);
            Check.due("the same", () -> x.totalWater(), 277);
        });
        promise(34, "Returns the number of units", () -> {
            Check.due("no sections", () -> new FoldedArchive().totalWaterByAccounts(), 0);
            FoldedArchive x = watered(Check.strip(7), 99, 99, 99, 99, 99, 99, 99);
            Check.due("as much as can be", () -> x.totalWaterByAccounts(), 693);
        });
        promise(35, "Returns the water that has been poured so far", () -> {
            FoldedArchive x = watered(folded(2, 0), 90, 3);
            Check.due("both", () -> x.poured(), 93);
            Check.answerOf(() -> x.pour(0, 10));
            Check.due("not what is denied", () -> x.poured(), 93);
            x.seep();
            Check.due("also what leaked", () -> x.poured(), 93);
            x.pour(0, 5);
            Check.due("more", () -> x.poured(), 98);
            x.undo();
            Check.due("not what is undone", () -> x.poured(), 93);
        });
        promise(35, "Returns the number of units", () -> {
            FoldedArchive x = folded(1, 0);
            Check.due("none", () -> x.poured(), 0);
            for (int times = 1; times <= 20; times++) {
                int due = 79 * times;
                x.pour(0, 79);
                x.seep();
                Check.due("more than there can be at once", () -> x.poured(), due);
            }
        });
        promise(36, "Returns the water that has leaked so far", () -> {
            FoldedArchive x = watered(folded(2, 0), 99, 99);
            x.seep();
            Check.due("seeping", () -> x.leaked(), 79);
            x.layPipe(0, 1, 20);
            x.drain();
            Check.due("draining", () -> x.leaked(), 99);
            x.undo();
            Check.due("not what is undone", () -> x.leaked(), 79);
        });
        promise(36, "Returns the number of units", () -> {
            FoldedArchive x = watered(folded(1, 0), 20);
            Check.due("none", () -> x.leaked(), 0);
            for (int times = 1; times <= 20; times++) {
                int due = 79 * times;
                x.pour(0, 79);
                x.seep();
                Check.due("more than there can be at once", () -> x.leaked(), due);
            }
        });
    }

    private static void shares() {
        promise(37, "Returns the mean water of the sections", () -> {
            FoldedArchive x = watered(Check.strip(7), 1, 0, 0, 0, 0, 0, 0);
            Check.due("no float, nor cut off", () -> x.meanWater(), 1.0 / 7.0);
            FoldedArchive y = watered(Check.strip(3), 99, 1);
            Check.due("dry ones, too", () -> y.meanWater(), 100.0 / 3.0);
        });
        promise(37, "Returns the mean.", () -> {
            FoldedArchive x = Check.strip(1);
            Check.due("dry", () -> x.meanWater(), 0.0);
            x.pour(0, 99);
            Check.due("of one", () -> x.meanWater(), 99.0);
            FoldedArchive y = watered(Check.strip(7), 99, 99, 99, 99, 99, 99, 99);
            Check.due("the greatest", () -> y.meanWater(), 99.0);
        });
        promise(37, "Throws `ArithmeticException`", () -> {
            FoldedArchive x = new FoldedArchive();
            Check.arithmetic("no sections", () -> x.meanWater());
            x.addSection();
            Check.due("one", () -> x.meanWater(), 0.0);
            x.undo();
            Check.arithmetic("no sections any more", () -> x.meanWater());
        });
        promise(38, "Returns the share of the poured water", () -> {
            FoldedArchive x = watered(folded(2, 0), 23, 4);
            x.seep();
            Check.due("a float", () -> x.leakedShare(), 3.0f / 27.0f);
            Check.due("not the share of what is left", () -> x.leakedShare() == 3.0f / 24.0f, false);
        });
        promise(38, "Returns the share.", () -> {
            FoldedArchive x = watered(folded(1, 0), 20);
            Check.due("none leaked", () -> x.leakedShare(), 0.0f);
            x.pour(0, 20);
            x.seep();
            Check.due("half of it", () -> x.leakedShare(), 0.5f);
            FoldedArchive y = watered(piped(2, 1, 1), 1);
            y.breakPipe(1);
            y.drain();
            Check.due("all of it", () -> y.leakedShare(), 1.0f);
        });
        promise(38, "Throws `ArithmeticException`", () -> {
            FoldedArchive x = Check.strip(1);
            Check.arithmetic("nothing poured", () -> x.leakedShare());
            x.pour(0, 1);
            Check.due("one unit", () -> x.leakedShare(), 0.0f);
            x.undo();
            Check.arithmetic("nothing poured any more", () -> x.leakedShare());
            Check.arithmetic("no sections", () -> new FoldedArchive().leakedShare());
            FoldedArchive y = watered(piped(2, 1, 1), 1);
            y.breakPipe(1);
            y.drain();
            Check.due("poured, though none is left", () -> y.leakedShare(), 1.0f);
        });
    }
}
