/** Promises 31 to 38. */
public final class WaterTest {
    public static void main(String[] args) {
        draining();
        drainingLeaks();
        seeping();
        seepingOverflows();
        accounts();
        shares();
        Check.end();
    }

    private static void draining() {
        FoldedArchive none = new FoldedArchive();
        Check.denied("31: no sections", none, () -> none.drain(), 7, 0);
        FoldedArchive one = Check.strip(1);
        one.pour(0, 50);
        Check.denied("31: one section", one, () -> one.drain(), 7, 1);
        FoldedArchive x = Check.strip(3);
        x.pour(0, 50);
        Check.due("31: no pipes", () -> x.drain(), 0);
        x.layPipe(0, 1, 20);
        x.layPipe(1, 2, 18);
        Check.due("31: the flow", () -> x.drain(), 18);
        Check.due("31: left the first", () -> x.water(0), 32);
        Check.due("31: passed the second", () -> x.water(1), 0);
        Check.due("31: came to the last", () -> x.water(2), 18);
        x.drain();
        Check.due("31: what is left", () -> x.drain(), 14);
        Check.due("31: dry", () -> x.drain(), 0);
        Check.due("31: all in the last", () -> x.water(2), 50);
        Check.due("31: nothing leaked", () -> x.leaked(), 0);
    }

    private static void drainingLeaks() {
        FoldedArchive x = Check.strip(2);
        x.pour(0, 12);
        x.layPipe(0, 1, 10);
        x.layPipe(0, 1, 20);
        x.layPipe(1, 0, 20);
        x.layPipe(1, 0, 20);
        x.breakPipe(1);
        x.breakPipe(2);
        x.breakPipe(3);
        Check.due("31: along the whole pipe", () -> x.drain(), 10);
        Check.due("31: one unit for each broken one", () -> x.leaked(), 3);
        Check.due("31: the rest", () -> x.water(1), 7);
        Check.due("31: less than broken ones", () -> x.drain(), 2);
        Check.due("31: not more than there is", () -> x.leaked(), 5);
        Check.due("31: nothing comes", () -> x.water(1), 7);
        FoldedArchive y = Check.strip(2);
        y.pour(0, 30);
        y.pour(1, 95);
        y.layPipe(0, 1, 20);
        y.layPipe(0, 1, 1);
        y.breakPipe(1);
        Check.due("31: leaves, though the last is nearly full", () -> y.drain(), 20);
        Check.due("31: up to the limit", () -> y.water(1), 99);
        Check.due("31: the pipe and what exceeds", () -> y.leaked(), 16);
        Check.due("31: first", () -> y.water(0), 10);
    }

    private static void seeping() {
        FoldedArchive none = new FoldedArchive();
        Check.denied("32: no sections", none, () -> none.seep(), 3, 0);
        FoldedArchive x = Check.strip(3);
        x.pour(0, 25);
        x.pour(1, 40);
        x.pour(2, 99);
        Check.denied("32: nothing folded", x, () -> x.seep(), 3, 3);
        x.fold(0);
        Check.due("32: from layer 0", () -> x.seep(), 5);
        Check.due("32: only what is folded", () -> x.water(1), 40);
        x.fold(0);
        Check.due("32: from the bottom, not from above", () -> x.seep(), 20);
        Check.due("32: exactly the level stays", () -> x.water(0), 20);
        x.fold(2);
        Check.due("32: goes through all layers in one call", () -> x.seep(), 79);
        Check.due("32: top", () -> x.water(2), 20);
        Check.due("32: middle", () -> x.water(0), 20);
        Check.due("32: bottom", () -> x.water(1), 20);
        Check.due("32: nothing more", () -> x.seep(), 0);
        Check.due("32: in all", () -> x.leaked(), 104);
    }

    private static void seepingOverflows() {
        FoldedArchive x = Check.strip(2);
        x.pour(0, 90);
        x.pour(1, 50);
        x.fold(0);
        x.fold(1);
        Check.due("32: over 99 and through", () -> x.seep(), 100);
        FoldedArchive y = Check.strip(3);
        y.pour(0, 10);
        y.pour(1, 99);
        y.pour(2, 99);
        y.fold(0);
        y.fold(1);
        y.fold(2);
        Check.due("32: full below", () -> y.seep(), 148);
        Check.due("32: all at the level", () -> y.totalWater(), 60);
        FoldedArchive z = Check.strip(2);
        z.pour(1, 21);
        z.fold(0);
        z.fold(1);
        Check.due("32: moves and stays below", () -> z.seep(), 0);
        Check.due("32: one unit below", () -> z.water(0), 1);
    }

    private static void accounts() {
        FoldedArchive x = Check.strip(3);
        Check.due("33: dry", () -> x.totalWater(), 0);
        Check.due("34: dry", () -> x.totalWaterByAccounts(), 0);
        x.pour(0, 99);
        x.pour(2, 34);
        x.fold(0);
        Check.due("35: both", () -> x.poured(), 133);
        x.seep();
        Check.due("36: leaked", () -> x.leaked(), 79);
        Check.due("35: leaking doesn't take back", () -> x.poured(), 133);
        Check.due("33: the rest", () -> x.totalWater(), 54);
        Check.due("34: the rest", () -> x.totalWaterByAccounts(), 54);
    }

    private static void shares() {
        FoldedArchive x = new FoldedArchive();
        Check.arithmetic("37: no sections", () -> x.meanWater());
        Check.arithmetic("38: nothing poured", () -> x.leakedShare());
        x.addSection();
        Check.due("37: dry", () -> x.meanWater(), 0.0);
        x.addSection();
        x.addSection();
        Check.arithmetic("38: still nothing poured", () -> x.leakedShare());
        x.pour(1, 35);
        Check.due("37: mean", () -> x.meanWater(), 35.0 / 3.0);
        Check.due("38: none leaked", () -> x.leakedShare(), 0.0f);
        x.fold(0);
        x.fold(0);
        x.seep();
        Check.due("37: after the leak", () -> x.meanWater(), 20.0 / 3.0);
        Check.due("38: share", () -> x.leakedShare(), 15.0f / 35.0f);
        Check.due("38: is a float", () -> (double) x.leakedShare() == 15.0 / 35.0, false);
    }
}
