/** Promises 1 to 10. */
public final class SectionsTest {
    public static void main(String[] args) {
        newObject();
        addSection();
        pour();
        tag();
        untag();
        reading();
        sectionByWater();
        Check.end();
    }

    private static void newObject() {
        FoldedArchive x = new FoldedArchive();
        Check.due("1: no sections", () -> x.sectionCount(), 0);
        Check.due("1: no pipes", () -> x.pipeCount(), 0);
        Check.due("1: nothing folded", () -> x.foldedCount(), 0);
        Check.due("1: nothing poured", () -> x.poured(), 0);
        Check.due("1: nothing leaked", () -> x.leaked(), 0);
        Check.due("1: nothing to undo", () -> x.undoCount(), 0);
        Check.due("1: no text", () -> x.clearText(), 0);
        Check.index("1: no line", () -> x.lineCharacter(0));
    }

    private static void addSection() {
        FoldedArchive x = new FoldedArchive();
        for (int section = 0; section < 7; section++) {
            int number = section;
            Check.due("2: number", () -> x.addSection(), number);
            Check.due("6: count", () -> x.sectionCount(), number + 1);
            Check.due("2: no water", () -> x.water(number), 0);
            Check.due("2: no term", () -> x.hasTerm(number, 'a'), false);
            Check.missing("2: not folded", () -> x.layerOf(number));
        }
        Check.denied("2: an eighth one", x, () -> x.addSection(), 1, 7);
        Check.due("2: still seven", () -> x.sectionCount(), 7);
        Check.due("2: only seven changes", () -> x.undoCount(), 7);
    }

    private static void pour() {
        FoldedArchive x = Check.strip(2);
        Check.due("3: one unit", () -> x.pour(0, 1), 1);
        Check.due("3: up to the limit", () -> x.pour(0, 98), 99);
        Check.denied("3: over the limit", x, () -> x.pour(0, 1), 1, 99);
        Check.due("3: all at once", () -> x.pour(1, 99), 99);
        Check.due("3: both poured", () -> x.poured(), 198);
        Check.due("3: nothing of the denied", () -> x.totalWater(), 198);
        Check.index("3: section below", () -> x.pour(-1, 1));
        Check.index("3: section above", () -> x.pour(2, 1));
        Check.index("3: section before units", () -> x.pour(2, 0));
        Check.argument("3: no units", () -> x.pour(0, 0));
        Check.argument("3: negative units", () -> x.pour(0, -1));
        Check.argument("3: units before denial", () -> x.pour(0, 100));
        Check.argument("3: greatest int", () -> x.pour(0, Integer.MAX_VALUE));
        Check.index("3: least section", () -> x.pour(Integer.MIN_VALUE, 5));
        FoldedArchive y = Check.strip(1);
        y.pour(0, 60);
        Check.denied("3: a part would fit", y, () -> y.pour(0, 40), 1, 99);
        Check.due("3: none of it came in", () -> y.water(0), 60);
    }

    private static void tag() {
        FoldedArchive x = Check.strip(2);
        for (char term = 'a'; term <= 'h'; term++) {
            char given = term;
            Check.due("4: " + term, () -> x.tag(1, given), term - 'a' + 1);
            Check.due("8: " + term, () -> x.hasTerm(1, given), true);
            Check.due("8: not the other section", () -> x.hasTerm(0, given), false);
        }
        Check.denied("4: twice", x, () -> x.tag(1, 'd'), 5, 8);
        Check.index("4: section below", () -> x.tag(-1, 'a'));
        Check.index("4: section before term", () -> x.tag(2, 'i'));
        Check.argument("4: above h", () -> x.tag(0, 'i'));
        Check.argument("4: below a", () -> x.tag(0, '`'));
        Check.argument("4: upper case", () -> x.tag(0, 'A'));
        Check.argument("4: far away", () -> x.tag(0, (char) 65535));
    }

    private static void untag() {
        FoldedArchive x = Check.strip(1);
        x.tag(0, 'b');
        x.tag(0, 'h');
        Check.denied("5: not there", x, () -> x.untag(0, 'c'), 5, 2);
        Check.due("5: one left", () -> x.untag(0, 'b'), 1);
        Check.due("5: gone", () -> x.hasTerm(0, 'b'), false);
        Check.due("5: the other stays", () -> x.hasTerm(0, 'h'), true);
        Check.denied("5: twice", x, () -> x.untag(0, 'b'), 5, 1);
        Check.due("5: none left", () -> x.untag(0, 'h'), 0);
        Check.index("5: section before term", () -> x.untag(1, 'z'));
        Check.argument("5: no such term", () -> x.untag(0, 'i'));
        Check.argument("5: no such term below", () -> x.untag(0, '`'));
    }

    private static void reading() {
        FoldedArchive x = Check.strip(3);
        x.pour(1, 42);
        Check.due("7: water", () -> x.water(1), 42);
        Check.due("7: dry", () -> x.water(2), 0);
        Check.index("7: below", () -> x.water(-1));
        Check.index("7: above", () -> x.water(3));
        Check.index("8: below", () -> x.hasTerm(-1, 'a'));
        Check.index("8: section before term", () -> x.hasTerm(3, 'i'));
        Check.argument("8: no such term", () -> x.hasTerm(0, 'i'));
        Check.argument("8: no such term below", () -> x.hasTerm(0, '`'));
        x.tag(0, 'a');
        x.tag(2, 'a');
        x.tag(2, 'h');
        Check.due("9: two", () -> x.sectionsWith('a'), 2);
        Check.due("9: one", () -> x.sectionsWith('h'), 1);
        Check.due("9: none", () -> x.sectionsWith('g'), 0);
        Check.argument("9: above", () -> x.sectionsWith('i'));
        Check.argument("9: below", () -> x.sectionsWith('`'));
    }

    private static void sectionByWater() {
        FoldedArchive x = Check.strip(6);
        x.pour(1, 10);
        x.pour(2, 30);
        x.pour(3, 10);
        x.pour(4, 10);
        x.tag(3, 'a');
        x.tag(3, 'b');
        x.tag(4, 'h');
        x.tag(5, 'c');
        int[] due = {2, 3, 4, 1, 5, 0};
        for (int rank = 0; rank < due.length; rank++) {
            int asked = rank;
            Check.due("10: rank " + rank, () -> x.sectionByWater(asked), due[rank]);
        }
        Check.missing("10: below", () -> x.sectionByWater(-1));
        Check.missing("10: above", () -> x.sectionByWater(6));
        FoldedArchive y = Check.strip(3);
        Check.due("10: equal in all, the lower number first", () -> y.sectionByWater(0), 0);
        Check.due("10: equal in all, the higher number last", () -> y.sectionByWater(2), 2);
        Check.missing("10: no sections", () -> new FoldedArchive().sectionByWater(0));
    }
}
