/** The sentences on sections: of the terms, and promises 1 to 10. */
final class SectionSentences extends Sentences {
    static void test() {
        theStrip();
        newObject();
        addSection();
        pour();
        tag();
        untag();
        sectionCount();
        water();
        hasTerm();
        sectionsWith();
        sectionByWater();
    }

    private static void theStrip() {
        test("What it is", "", "An object is used for at most 512 calls", () -> {
            FoldedArchive x = Check.strip(1);
            x.tag(0, 'a');
            for (int call = 3; call <= 512; call++) {
                int due = call % 2 + 1;
                Check.due("call " + call, () -> due == 2 ? x.tag(0, 'c') : x.untag(0, 'c'), due);
            }
            FoldedArchive y = Check.strip(7);
            for (int call = 8; call <= 512; call++) {
                Check.due("call " + call, () -> y.completions(), 462);
            }
            FoldedArchive z = Check.strip(1);
            for (int call = 2; call <= 511; call++) {
                Check.answerOf(call % 2 == 0 ? () -> z.fold(0) : () -> z.unfold());
            }
            Check.due("call 512", () -> z.undoCount(), 8);
        });
        terms("The map is a strip of at most 7 sections", () -> {
            FoldedArchive x = new FoldedArchive();
            for (int section = 0; section < 7; section++) {
                int due = section;
                Check.due("in the order", () -> x.addSection(), due);
            }
            Check.due("an eighth", () -> x.addSection(), "throws.UnsupportedOperationException");
            Check.due("seven", () -> x.sectionCount(), 7);
        });
        terms("A section has from 0 to 99 units of water", () -> {
            FoldedArchive x = Check.strip(7);
            for (int section : new int[] {0, 6}) {
                Check.due("initial water", () -> x.water(section), 0);
                Check.due("some water", () -> x.pour(section, 60), 60);
                Check.due("more than it holds", () -> x.pour(section, 40), "throws.UnsupportedOperationException");
                Check.due("most water", () -> x.pour(section, 39), 99);
                Check.due("one more", () -> x.pour(section, 1), "throws.UnsupportedOperationException");
                for (char term = 'a'; term <= 'h'; term++) {
                    char given = term;
                    Check.due("initially without " + term, () -> x.hasTerm(section, given), false);
                    Check.due("with " + term, () -> x.tag(section, given), term - 'a' + 1);
                }
                Check.argument("no letter before a", () -> x.tag(section, '`'));
                Check.argument("no letter after h", () -> x.tag(section, 'i'));
            }
        });
    }

    private static void newObject() {
        promise(1, "Creates an archive without sections and pipes", () -> {
            FoldedArchive other = piped(7, 3);
            FoldedArchive x = new FoldedArchive();
            Check.due("sections", () -> x.sectionCount(), 0);
            Check.due("pipes", () -> x.pipeCount(), 0);
            Check.index("section 0", () -> x.water(0));
            Check.index("pipe 0", () -> x.capacity(0));
            Check.due("another object keeps its own", () -> other.sectionCount() + other.pipeCount(), 8);
        });
    }

    private static void addSection() {
        promise(2, "Adds a section to the end", () -> {
            FoldedArchive x = Check.strip(1);
            x.saveSnapshot();
            x.addSection();
            x.pour(1, 50);
            x.tag(1, 'b');
            x.fold(0);
            x.fold(0);
            x.restoreSnapshot();
            x.addSection();
            Check.due("no water, even where one had some", () -> x.water(1), 0);
            Check.due("no terms, even where one had some", () -> x.sectionsWith('b'), 0);
            Check.missing("not folded, even where one was", () -> x.layerOf(1));
            x.fold(0);
            x.fold(0);
            x.addSection();
            Check.missing("not folded, though all others are", () -> x.layerOf(2));
            Check.due("the others stay folded", () -> pile(x), "10");
        });
        promise(2, "Returns the number of the section", () -> {
            FoldedArchive x = new FoldedArchive();
            Check.due("the first", () -> x.addSection(), 0);
            Check.due("the second", () -> x.addSection(), 1);
            FoldedArchive y = Check.strip(6);
            Check.due("the last", () -> y.addSection(), 6);
        });
        promise(2, "Throws `UnsupportedOperationException`", () -> {
            FoldedArchive x = Check.strip(6);
            x.addSection();
            Check.missing("seven are not denied", () -> x.denial());
            Check.denied("eight", x, () -> x.addSection(), 1, 7);
            Check.denied("once more", x, () -> x.addSection(), 1, 7);
            Check.due("still seven", () -> x.sectionCount(), 7);
            x.undo();
            Check.due("room again", () -> x.addSection(), 6);
        });
    }

    private static void pour() {
        promise(3, "Pours water into a section", () -> {
            FoldedArchive x = Check.strip(3);
            x.pour(1, 40);
            x.pour(1, 2);
            Check.due("added up", () -> x.water(1), 42);
            Check.due("poured", () -> x.poured(), 42);
            Check.due("not the one before", () -> x.water(0), 0);
            Check.due("not the one behind", () -> x.water(2), 0);
        });
        promise(3, "- `section`", () -> {
            FoldedArchive x = Check.strip(7);
            Check.due("the first", () -> x.pour(0, 3), 3);
            Check.due("the last", () -> x.pour(6, 4), 4);
            Check.due("in the first", () -> x.water(0), 3);
            Check.due("in the last", () -> x.water(6), 4);
        });
        promise(3, "- `units`", () -> {
            FoldedArchive x = Check.strip(2);
            Check.due("least", () -> x.pour(0, 1), 1);
            Check.due("greatest", () -> x.pour(1, 99), 99);
            Check.argument("below the least", () -> x.pour(0, 0));
            Check.argument("above the greatest", () -> x.pour(0, 100));
        });
        promise(3, "Returns the water of the section afterwards", () -> {
            FoldedArchive x = Check.strip(1);
            Check.due("in a dry one", () -> x.pour(0, 1), 1);
            Check.due("to water", () -> x.pour(0, 97), 98);
            Check.due("up to the limit", () -> x.pour(0, 1), 99);
        });
        noSuchSection(3, (x, section) -> x.pour(section, 1));
        promise(3, "Throws `IllegalArgumentException`", () -> {
            FoldedArchive x = Check.strip(1);
            for (int units : new int[] {0, -1, -99, 100, 200, Integer.MIN_VALUE, Integer.MAX_VALUE}) {
                Check.argument(units + " units", () -> x.pour(0, units));
            }
            Check.due("none came in", () -> x.water(0), 0);
            Check.missing("no denial", () -> x.denial());
        });
        promise(3, "Throws `UnsupportedOperationException`", () -> {
            FoldedArchive x = Check.strip(1);
            x.pour(0, 98);
            Check.denied("one too many", x, () -> x.pour(0, 2), 1, 99);
            Check.due("none of it came in", () -> x.water(0), 98);
            Check.due("nor counts", () -> x.poured(), 98);
            x.pour(0, 1);
            Check.denied("into a full one", x, () -> x.pour(0, 1), 1, 99);
            Check.denied("as much as can be", x, () -> x.pour(0, 99), 1, 99);
        });
    }

    private static void tag() {
        promise(4, "Gives a section a term", () -> {
            FoldedArchive x = Check.strip(3);
            x.tag(1, 'c');
            Check.due("has it", () -> x.hasTerm(1, 'c'), true);
            Check.due("not the one before", () -> x.hasTerm(0, 'c'), false);
            Check.due("not the one behind", () -> x.hasTerm(2, 'c'), false);
            Check.due("no letter before", () -> x.hasTerm(1, 'b'), false);
            Check.due("no letter behind", () -> x.hasTerm(1, 'd'), false);
        });
        promise(4, "- `section`", () -> {
            FoldedArchive x = Check.strip(7);
            Check.due("the first", () -> x.tag(0, 'a'), 1);
            Check.due("the last", () -> x.tag(6, 'b'), 1);
            Check.due("in the first", () -> x.hasTerm(0, 'a'), true);
            Check.due("in the last", () -> x.hasTerm(6, 'b'), true);
        });
        promise(4, "- `term`", () -> {
            FoldedArchive x = Check.strip(1);
            Check.due("the first", () -> x.tag(0, 'a'), 1);
            Check.due("the last", () -> x.tag(0, 'h'), 2);
            Check.argument("before the first", () -> x.tag(0, '`'));
            Check.argument("behind the last", () -> x.tag(0, 'i'));
        });
        promise(4, "Returns the number of its terms afterwards", () -> {
            FoldedArchive x = Check.strip(2);
            x.tag(1, 'a');
            for (char term = 'h'; term >= 'a'; term--) {
                char given = term;
                Check.due("with " + term, () -> x.tag(0, given), 'h' - term + 1);
            }
        });
        noSuchSection(4, (x, section) -> x.tag(section, 'a'));
        noSuchTerm(4, (x, term) -> x.tag(0, term));
        promise(4, "Throws `UnsupportedOperationException`", () -> {
            FoldedArchive x = Check.strip(2);
            x.tag(0, 'a');
            Check.denied("its only term", x, () -> x.tag(0, 'a'), 5, 1);
            x.tag(0, 'h');
            Check.denied("its last term", x, () -> x.tag(0, 'h'), 5, 2);
            Check.due("still two", () -> x.untag(0, 'a'), 1);
            Check.due("another section doesn't have it", () -> x.tag(1, 'h'), 1);
            Check.due("what was taken can be given", () -> x.tag(0, 'a'), 2);
        });
    }

    private static void untag() {
        promise(5, "Takes a term from a section", () -> {
            FoldedArchive x = marked();
            x.untag(4, 'c');
            Check.due("has it no more", () -> x.hasTerm(4, 'c'), false);
            Check.due("the one before has", () -> x.hasTerm(3, 'c'), true);
            Check.due("the one behind has", () -> x.hasTerm(5, 'c'), true);
            Check.due("the letter before stays", () -> x.hasTerm(4, 'b'), true);
            Check.due("the letter behind stays", () -> x.hasTerm(4, 'd'), true);
        });
        promise(5, "- `section`", () -> {
            FoldedArchive x = Check.strip(7);
            x.tag(0, 'd');
            x.tag(6, 'd');
            Check.due("the first", () -> x.untag(0, 'd'), 0);
            Check.due("not in the last yet", () -> x.hasTerm(6, 'd'), true);
            Check.due("the last", () -> x.untag(6, 'd'), 0);
        });
        promise(5, "- `term`", () -> {
            FoldedArchive x = Check.strip(1);
            x.tag(0, 'a');
            x.tag(0, 'h');
            Check.argument("before the first", () -> x.untag(0, '`'));
            Check.argument("behind the last", () -> x.untag(0, 'i'));
            Check.due("the last", () -> x.untag(0, 'h'), 1);
            Check.due("the first", () -> x.untag(0, 'a'), 0);
        });
        promise(5, "Returns the number of its terms afterwards", () -> {
            FoldedArchive x = Check.strip(2);
            x.tag(1, 'a');
            for (char term = 'a'; term <= 'h'; term++) {
                x.tag(0, term);
            }
            for (char term = 'a'; term <= 'h'; term++) {
                char given = term;
                Check.due("without " + term, () -> x.untag(0, given), 'h' - term);
            }
        });
        noSuchSection(5, (x, section) -> x.untag(section, 'a'));
        noSuchTerm(5, (x, term) -> x.untag(0, term));
        promise(5, "Throws `UnsupportedOperationException`", () -> {
            FoldedArchive x = Check.strip(2);
            Check.denied("has none", x, () -> x.untag(0, 'a'), 5, 0);
            x.tag(0, 'a');
            x.tag(1, 'h');
            Check.denied("has another one", x, () -> x.untag(0, 'h'), 5, 1);
            x.untag(0, 'a');
            Check.denied("had it", x, () -> x.untag(0, 'a'), 5, 0);
        });
    }

    private static void sectionCount() {
        promise(6, "Returns the number of sections", () -> {
            FoldedArchive x = new FoldedArchive();
            Check.due("none", () -> x.sectionCount(), 0);
            for (int section = 0; section < 7; section++) {
                x.addSection();
                int due = section + 1;
                Check.due("added", () -> x.sectionCount(), due);
            }
            Check.answerOf(() -> x.addSection());
            Check.due("not the denied one", () -> x.sectionCount(), 7);
            x.fold(0);
            Check.due("the folded one, too", () -> x.sectionCount(), 7);
        });
    }

    private static void water() {
        promise(7, "Returns the water of a section", () -> {
            FoldedArchive x = marked();
            for (int section = 0; section < 7; section++) {
                int asked = section;
                Check.due("section " + section, () -> x.water(asked), 10 * asked + 1);
            }
        });
        promise(7, "- `section`", () -> {
            FoldedArchive x = marked();
            Check.due("the first", () -> x.water(0), 1);
            Check.due("the last", () -> x.water(6), 61);
        });
        promise(7, "Returns the number of units", () -> {
            FoldedArchive x = Check.strip(1);
            Check.due("none", () -> x.water(0), 0);
            x.pour(0, 99);
            Check.due("as many as can be", () -> x.water(0), 99);
        });
        noSuchSection(7, (x, section) -> x.water(section));
    }

    private static void hasTerm() {
        promise(8, "Returns whether a section has a term", () -> {
            FoldedArchive x = marked();
            for (int section = 0; section < 7; section++) {
                int asked = section;
                for (char term = 'a'; term <= 'h'; term++) {
                    char letter = term;
                    Check.due(section + " has " + term, () -> x.hasTerm(asked, letter), letter - 'a' < asked);
                }
            }
        });
        promise(8, "- `section`", () -> {
            FoldedArchive x = Check.strip(7);
            x.tag(0, 'a');
            x.tag(6, 'b');
            Check.due("the first", () -> x.hasTerm(0, 'a'), true);
            Check.due("the last", () -> x.hasTerm(6, 'b'), true);
            Check.due("the last has not the first one's", () -> x.hasTerm(6, 'a'), false);
        });
        promise(8, "- `term`", () -> {
            FoldedArchive x = Check.strip(1);
            x.tag(0, 'a');
            x.tag(0, 'h');
            Check.due("the first", () -> x.hasTerm(0, 'a'), true);
            Check.due("the last", () -> x.hasTerm(0, 'h'), true);
            Check.argument("before the first", () -> x.hasTerm(0, '`'));
            Check.argument("behind the last", () -> x.hasTerm(0, 'i'));
        });
        promise(8, "Returns whether it has the term", () -> {
            FoldedArchive x = Check.strip(1);
            Check.due("not yet", () -> x.hasTerm(0, 'e'), false);
            x.tag(0, 'e');
            Check.due("now", () -> x.hasTerm(0, 'e'), true);
            x.untag(0, 'e');
            Check.due("no more", () -> x.hasTerm(0, 'e'), false);
        });
        noSuchSection(8, (x, section) -> x.hasTerm(section, 'a'));
        noSuchTerm(8, (x, term) -> x.hasTerm(0, term));
    }

    private static void sectionsWith() {
        promise(9, "Returns the number of sections that have a term", () -> {
            FoldedArchive x = marked();
            for (char term = 'a'; term <= 'h'; term++) {
                char asked = term;
                Check.due("with " + term, () -> x.sectionsWith(asked), Math.max(0, 6 - (asked - 'a')));
            }
        });
        promise(9, "- `term`", () -> {
            FoldedArchive x = Check.strip(3);
            x.tag(0, 'a');
            x.tag(1, 'h');
            x.tag(2, 'h');
            Check.due("the first", () -> x.sectionsWith('a'), 1);
            Check.due("the last", () -> x.sectionsWith('h'), 2);
            Check.argument("before the first", () -> x.sectionsWith('`'));
            Check.argument("behind the last", () -> x.sectionsWith('i'));
        });
        promise(9, "Returns the number of sections.", () -> {
            FoldedArchive x = new FoldedArchive();
            Check.due("without sections", () -> x.sectionsWith('d'), 0);
            for (int section = 0; section < 7; section++) {
                int due = section + 1;
                x.addSection();
                Check.due("the new one has none", () -> x.sectionsWith('d'), due - 1);
                x.tag(section, 'd');
                Check.due("up to all", () -> x.sectionsWith('d'), due);
            }
        });
        noSuchTerm(9, (x, term) -> x.sectionsWith(term));
    }

    private static void ranked(FoldedArchive x, int... sections) {
        for (int rank = 0; rank < sections.length; rank++) {
            int asked = rank;
            Check.due("rank " + rank, () -> x.sectionByWater(asked), sections[asked]);
        }
    }

    private static void sectionByWater() {
        promise(10, "Returns the section at a rank by water", () -> {
            FoldedArchive x = Check.strip(4);
            x.pour(0, 5);
            x.pour(1, 99);
            x.pour(3, 6);
            for (char term = 'a'; term <= 'h'; term++) {
                x.tag(2, term);
            }
            ranked(x, 1, 3, 0, 2);
        });
        promise(10, "for equal water, the one with more terms", () -> {
            FoldedArchive x = Check.strip(5);
            x.tag(2, 'a');
            x.tag(3, 'h');
            x.tag(4, 'g');
            x.tag(4, 'h');
            ranked(x, 4, 2, 3, 0, 1);
            ranked(Check.strip(7), 0, 1, 2, 3, 4, 5, 6);
        });
        promise(10, "- `rank`", () -> {
            FoldedArchive x = marked();
            Check.due("the first", () -> x.sectionByWater(0), 6);
            Check.due("the last", () -> x.sectionByWater(6), 0);
            Check.missing("before the first", () -> x.sectionByWater(-1));
        });
        promise(10, "Returns the number of the section", () -> {
            FoldedArchive x = Check.strip(1);
            Check.due("the only one", () -> x.sectionByWater(0), 0);
            ranked(marked(), 6, 5, 4, 3, 2, 1, 0);
        });
        promise(10, "Throws `NoSuchElementException`", () -> {
            for (int sections : new int[] {0, 1, 3, 7}) {
                FoldedArchive x = Check.strip(sections);
                for (int rank : outside(sections)) {
                    Check.missing(rank + " of " + sections, () -> x.sectionByWater(rank));
                }
            }
        });
    }
}
