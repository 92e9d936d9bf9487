import java.util.List;

/** The sentences on layers: of the terms, and promises 11 to 18. */
final class LayerSentences extends Sentences {
    static void test() {
        thePile();
        creases();
        crossings();
        fold();
        unfold();
        foldedCount();
        layerOf();
        sectionIn();
        canFold();
        completions();
        completionsByOrders();
    }

    private static void thePile() {
        terms("The sections are folded one after the other", () -> {
            FoldedArchive x = Check.strip(3);
            for (int section = 0; section < 3; section++) {
                int next = section;
                Check.missing("not folded yet", () -> x.layerOf(next));
                x.fold(0);
                Check.due("the next one is on the bottom", () -> x.sectionIn(0), next);
            }
            x.unfold();
            x.fold(2);
            Check.due("the unfolded one is the next", () -> pile(x), "102");
        });
        terms("Those that are folded form a pile", () -> {
            FoldedArchive x = folded(5, 0, 1, 1);
            Check.due("0", () -> x.layerOf(0), 0);
            Check.due("1", () -> x.layerOf(1), 2);
            Check.due("2", () -> x.layerOf(2), 1);
            Check.missing("3 is not in the pile", () -> x.layerOf(3));
            Check.missing("4 is not in the pile", () -> x.layerOf(4));
        });
        terms("layers are numbered from 0 at the bottom", () -> {
            FoldedArchive x = Piles.made(7, "0145632");
            for (int layer = 0; layer < 7; layer++) {
                int asked = layer;
                Check.due("layer " + layer, () -> x.sectionIn(asked), "0145632".charAt(asked) - '0');
            }
            Check.index("below 0", () -> x.sectionIn(-1));
            Check.index("above the top", () -> x.sectionIn(7));
            x.unfold();
            Check.due("no gap is left", () -> x.sectionIn(4), 3);
            Check.index("the top has moved down", () -> x.sectionIn(6));
        });
        terms("When a section is folded into a layer", () -> {
            FoldedArchive x = Piles.made(4, "021");
            x.fold(1);
            Check.due("below it stays", () -> x.layerOf(0), 0);
            Check.due("in this layer moves", () -> x.layerOf(2), 2);
            Check.due("above it moves", () -> x.layerOf(1), 3);
            Check.due("the new one", () -> x.layerOf(3), 1);
            FoldedArchive y = Piles.made(3, "01");
            y.fold(2);
            Check.due("on top nothing moves", () -> pile(y), "012");
            FoldedArchive z = Piles.made(3, "01");
            z.fold(0);
            Check.due("at the bottom all move", () -> pile(z), "201");
        });
    }

    private static void creases() {
        terms("Between each section s and section s plus 1", () -> {
            FoldedArchive zero = Piles.made(4, "021");
            Check.denied("crease 0", zero, () -> zero.fold(3), 4, 0);
            FoldedArchive one = Piles.made(5, "0132");
            Check.denied("crease 1", one, () -> one.fold(4), 4, 1);
            FoldedArchive x = Piles.made(7, "0145632");
            for (int left = 6; left >= 2; left--) {
                x.unfold();
            }
            for (int layer = 0; layer <= 2; layer++) {
                int asked = layer;
                Check.due("an unfolded section has none", () -> x.canFold(asked), true);
            }
        });
        terms("it is on the right side if s is even", () -> {
            FoldedArchive x = Piles.made(6, "32140");
            Check.due("3 is not on the side of 0", () -> x.fold(3), 6);
            FoldedArchive y = Piles.made(6, "43210");
            Check.due("4 is not on the side of 1", () -> y.fold(3), 6);
            FoldedArchive z = Piles.made(7, "543210");
            Check.due("5 is not on the side of 0", () -> z.canFold(5), true);
            Check.due("5 is not on the side of 2", () -> z.canFold(3), true);
            Check.denied("5 is on the side of 1", z, () -> z.fold(4), 4, 1);
            Check.denied("5 is on the side of 3", z, () -> z.fold(2), 4, 3);
            FoldedArchive right = Piles.made(6, "01234");
            Check.denied("4 is on the side of 0", right, () -> right.fold(1), 4, 0);
            Check.denied("4 is on the side of 2", right, () -> right.fold(3), 4, 2);
        });
        terms("It spans from the lower one to the higher one", () -> {
            FoldedArchive up = Piles.made(4, "021");
            Check.denied("upwards, below it", up, () -> up.fold(0), 4, 0);
            Check.denied("upwards, above it", up, () -> up.fold(3), 4, 0);
            Check.due("upwards, within", () -> up.canFold(1), true);
            FoldedArchive down = Piles.made(4, "120");
            Check.denied("downwards, below it", down, () -> down.fold(0), 4, 0);
            Check.denied("downwards, above it", down, () -> down.fold(3), 4, 0);
            Check.due("downwards, within", () -> down.canFold(2), true);
        });
    }

    private static void crossings() {
        terms("Two creases cross if they are on the same side", () -> {
            FoldedArchive apart = Piles.made(4, "012");
            Check.due("above the higher end", () -> apart.canFold(2), true);
            Check.due("farther above", () -> apart.canFold(3), true);
            Check.due("past both ends", () -> apart.canFold(0), true);
            Check.due("from above to between the ends", () -> apart.canFold(1), false);
            FoldedArchive within = Piles.made(4, "021");
            Check.due("from between the ends to below", () -> within.canFold(0), false);
            Check.due("between the ends, below", () -> within.canFold(1), true);
            Check.due("between the ends, above", () -> within.canFold(2), true);
            Check.due("from between the ends to above", () -> within.canFold(3), false);
            FoldedArchive below = Piles.made(4, "201");
            Check.due("below the lower end", () -> below.canFold(0), true);
            Check.due("still below the lower end", () -> below.canFold(1), true);
            Check.due("from below to between the ends", () -> below.canFold(2), false);
            Check.due("around both ends", () -> below.canFold(3), true);
        });
        terms("A folding of some sections", () -> {
            for (int sections = 1; sections <= 7; sections++) {
                for (String pile : Piles.foldings(sections - 1)) {
                    FoldedArchive x = Piles.made(sections, pile);
                    for (int layer = 0; layer < sections; layer++) {
                        int asked = layer;
                        int crossed = Piles.lowestCrossing(Piles.with(pile, layer), sections - 2);
                        String told = "section " + (sections - 1) + " into layer " + layer + " of " + pile;
                        Check.due(told, () -> x.canFold(asked), sections < 2 || crossed < 0);
                    }
                }
            }
        });
    }

    private static void fold() {
        promise(11, "Folds the next section into a layer", () -> {
            FoldedArchive x = Check.strip(7);
            String pile = "";
            for (int layer : new int[] {0, 1, 2, 2, 2, 3, 4}) {
                x.fold(layer);
                pile = Piles.with(pile, layer);
                String due = pile;
                Check.due("the pile", () -> pile(x), due);
            }
        });
        promise(11, "- `layer`", () -> {
            for (int count = 0; count < 7; count++) {
                FoldedArchive x = Check.strip(7);
                for (int section = 0; section < count; section++) {
                    x.fold(section);
                }
                int top = count;
                Check.due("the lowest of " + count, () -> x.fold(0), top + 1);
                x.undo();
                Check.index("above the highest of " + count, () -> x.fold(top + 1));
                Check.index("below the lowest of " + count, () -> x.fold(-1));
                Check.due("the highest of " + count, () -> x.fold(top), top + 1);
            }
        });
        promise(11, "Returns the number of folded sections afterwards", () -> {
            FoldedArchive x = Check.strip(7);
            for (int count = 1; count <= 7; count++) {
                Check.due("folded", () -> x.fold(0), count);
            }
        });
        promise(11, "Throws `IndexOutOfBoundsException`", () -> {
            for (int count : new int[] {0, 1, 3, 6}) {
                FoldedArchive x = Check.strip(7);
                for (int section = 0; section < count; section++) {
                    x.fold(section);
                }
                for (int layer : outside(count + 1)) {
                    Check.index(layer + " over " + count, () -> x.fold(layer));
                }
                Check.due("nothing folded", () -> x.foldedCount(), count);
            }
        });
        promise(11, "Throws `UnsupportedOperationException`", () -> {
            FoldedArchive none = new FoldedArchive();
            Check.denied("no sections", none, () -> none.fold(0), 2, 0);
            FoldedArchive all = folded(2, 0, 1);
            Check.denied("all folded, below", all, () -> all.fold(0), 2, 2);
            Check.denied("all folded, above", all, () -> all.fold(2), 2, 2);
            FoldedArchive x = Piles.made(4, "021");
            Check.denied("creases would cross", x, () -> x.fold(0), 4, 0);
            Check.due("the pile stays", () -> pile(x), "021");
        });
    }

    private static void unfold() {
        promise(12, "Unfolds the section that was folded last", () -> {
            FoldedArchive x = Piles.made(7, "0145632");
            for (String due : new String[] {"014532", "01432", "0132", "012", "01", "0", ""}) {
                x.unfold();
                Check.due("the rest", () -> pile(x), due);
            }
            FoldedArchive y = Piles.made(3, "01");
            y.unfold();
            Check.missing("not folded now", () -> y.layerOf(1));
        });
        promise(12, "Returns the layer in which it was", () -> {
            Check.due("the only one", () -> folded(1, 0).unfold(), 0);
            Check.due("at the bottom", () -> Piles.made(3, "201").unfold(), 0);
            Check.due("in the middle", () -> Piles.made(3, "021").unfold(), 1);
            Check.due("on top", () -> Piles.made(3, "012").unfold(), 2);
            Check.due("the last of seven", () -> folded(7, 0, 1, 2, 3, 4, 5, 6).unfold(), 6);
        });
        promise(12, "Throws `UnsupportedOperationException`", () -> {
            FoldedArchive none = new FoldedArchive();
            Check.denied("no sections", none, () -> none.unfold(), 3, 0);
            FoldedArchive x = Check.strip(7);
            Check.denied("none folded", x, () -> x.unfold(), 3, 7);
            x.fold(0);
            Check.due("one folded", () -> x.unfold(), 0);
            Check.denied("none folded any more", x, () -> x.unfold(), 3, 7);
        });
    }

    private static void foldedCount() {
        promise(13, "Returns the number of folded sections", () -> {
            FoldedArchive x = Check.strip(7);
            x.fold(0);
            x.fold(0);
            Check.due("not of all", () -> x.foldedCount(), 2);
            Check.answerOf(() -> x.fold(5));
            Check.due("not of one that is refused", () -> x.foldedCount(), 2);
        });
        promise(13, "Returns the number of sections", () -> {
            FoldedArchive x = Check.strip(7);
            for (int count = 0; count < 7; count++) {
                int due = count;
                Check.due("from none", () -> x.foldedCount(), due);
                x.fold(count);
            }
            Check.due("to all", () -> x.foldedCount(), 7);
            x.unfold();
            Check.due("one less", () -> x.foldedCount(), 6);
        });
    }

    private static void layerOf() {
        promise(14, "Returns the layer of a folded section", () -> {
            FoldedArchive x = Piles.made(7, "0145632");
            for (int section = 0; section < 7; section++) {
                int asked = section;
                Check.due("section " + section, () -> x.layerOf(asked), "0145632".indexOf('0' + asked));
            }
        });
        promise(14, "- `section`", () -> {
            FoldedArchive x = folded(7, 0, 0, 0, 0, 0, 0, 0);
            Check.due("the first", () -> x.layerOf(0), 6);
            Check.due("the last", () -> x.layerOf(6), 0);
        });
        promise(14, "Returns the layer.", () -> {
            FoldedArchive x = folded(2, 0);
            Check.due("the lowest", () -> x.layerOf(0), 0);
            x.fold(0);
            Check.due("moved up", () -> x.layerOf(0), 1);
            x.unfold();
            Check.due("moved down", () -> x.layerOf(0), 0);
        });
        noSuchSection(14, (x, section) -> x.layerOf(section));
        promise(14, "Throws `NoSuchElementException`", () -> {
            FoldedArchive x = Check.strip(3);
            Check.missing("the first, with no pile", () -> x.layerOf(0));
            x.fold(0);
            Check.missing("the next one", () -> x.layerOf(1));
            Check.missing("the last one", () -> x.layerOf(2));
            x.fold(0);
            x.unfold();
            Check.missing("unfolded", () -> x.layerOf(1));
        });
    }

    private static void sectionIn() {
        promise(15, "Returns the section in a layer", () -> {
            FoldedArchive x = Piles.made(4, "120");
            Check.due("bottom", () -> x.sectionIn(0), 1);
            Check.due("middle", () -> x.sectionIn(1), 2);
            Check.due("top", () -> x.sectionIn(2), 0);
        });
        promise(15, "- `layer`", () -> {
            FoldedArchive x = folded(7, 0, 0, 0, 0, 0, 0, 0);
            Check.due("the lowest", () -> x.sectionIn(0), 6);
            Check.due("the highest", () -> x.sectionIn(6), 0);
        });
        promise(15, "Returns the number of the section", () -> {
            FoldedArchive x = folded(7, 0);
            Check.due("the only one", () -> x.sectionIn(0), 0);
            x.fold(0);
            Check.due("the new one", () -> x.sectionIn(0), 1);
            x.unfold();
            Check.due("the old one again", () -> x.sectionIn(0), 0);
        });
        promise(15, "Throws `IndexOutOfBoundsException`", () -> {
            for (int count : new int[] {0, 1, 3, 7}) {
                FoldedArchive x = Check.strip(7);
                for (int section = 0; section < count; section++) {
                    x.fold(section);
                }
                for (int layer : outside(count)) {
                    Check.index(layer + " of " + count, () -> x.sectionIn(layer));
                }
            }
            FoldedArchive y = folded(3, 0, 1, 2);
            y.unfold();
            Check.index("the layer that was left", () -> y.sectionIn(2));
        });
    }

    private static void canFold() {
        promise(16, "Returns whether the next section could be folded", () -> {
            FoldedArchive x = Piles.made(4, "021");
            boolean[] due = {false, true, true, false};
            for (int layer = 0; layer < 4; layer++) {
                int asked = layer;
                Check.due("layer " + layer, () -> x.canFold(asked), due[layer]);
            }
            Check.due("folds nothing", () -> pile(x), "021");
            x.unfold();
            Check.due("now, with another pile", () -> x.canFold(0), true);
        });
        promise(16, "- `layer`", () -> {
            FoldedArchive x = Check.strip(7);
            for (int count = 0; count < 7; count++) {
                int top = count;
                Check.due("the lowest of " + count, () -> x.canFold(0), true);
                Check.due("the highest of " + count, () -> x.canFold(top), true);
                x.fold(count);
            }
        });
        promise(16, "Returns whether it could;", () -> {
            FoldedArchive x = Piles.made(4, "201");
            Check.due("it could", () -> x.canFold(3), true);
            Check.due("as it can", () -> x.fold(3), 4);
            x.undo();
            Check.due("it could not", () -> x.canFold(2), false);
            Check.missing("which is no denial", () -> x.denial());
            Check.due("as it can not", () -> x.fold(2), "throws.UnsupportedOperationException");
        });
        promise(16, "false if all sections are folded", () -> {
            Check.due("no sections", () -> new FoldedArchive().canFold(0), false);
            FoldedArchive x = folded(1, 0);
            Check.due("all of one, below", () -> x.canFold(0), false);
            Check.due("all of one, above", () -> x.canFold(1), false);
            FoldedArchive y = folded(7, 0, 1, 2, 3, 4, 5, 6);
            for (int layer = 0; layer <= 7; layer++) {
                int asked = layer;
                Check.due("all of seven, " + layer, () -> y.canFold(asked), false);
            }
            Check.missing("which is no denial", () -> y.denial());
        });
        promise(16, "Throws `IndexOutOfBoundsException`", () -> {
            for (int count : new int[] {0, 1, 3, 7}) {
                FoldedArchive x = Check.strip(7);
                for (int section = 0; section < count; section++) {
                    x.fold(section);
                }
                for (int layer : outside(count + 1)) {
                    Check.index(layer + " over " + count, () -> x.canFold(layer));
                }
            }
            Check.index("no sections", () -> new FoldedArchive().canFold(1));
        });
    }

    /** On each pile that can be made of the first sections of strips of up to seven. */
    private static void completionsOfAllPiles(At call) {
        for (int sections = 0; sections <= 7; sections++) {
            List<String> foldings = Piles.foldings(sections);
            for (int count = 0; count <= sections; count++) {
                for (String pile : Piles.foldings(count)) {
                    FoldedArchive x = Piles.made(sections, pile);
                    int due = Piles.completions(pile, foldings);
                    Check.due(pile + " of " + sections, () -> call.answer(x, 0), due);
                }
            }
        }
    }

    private static void completions() {
        promise(17, "Returns the number of foldings of all sections", () -> {
            completionsOfAllPiles((x, ignored) -> x.completions());
            FoldedArchive x = Piles.made(7, "021");
            Check.due("52 of them", () -> x.completions(), 52);
            Check.due("unfolds again", () -> pile(x), "021");
            Check.due("what it folds is no change", () -> x.undoCount(), 8);
            Check.missing("what it can't fold is no denial", () -> x.denial());
        });
        promise(17, "Returns the number of foldings, 1 if all", () -> {
            Check.due("no sections", () -> new FoldedArchive().completions(), 1);
            Check.due("all of one", () -> folded(1, 0).completions(), 1);
            Check.due("all of seven", () -> Piles.made(7, "0145632").completions(), 1);
            Check.due("one is left, in two ways", () -> Piles.made(7, "014532").completions(), 2);
            Check.due("none folded", () -> Check.strip(7).completions(), 462);
        });
    }

    private static void completionsByOrders() {
        promise(18, "Returns the same number as completions", () -> {
            completionsOfAllPiles((x, ignored) -> x.completionsByOrders());
            FoldedArchive x = Piles.made(7, "201");
            Check.due("83 of them", () -> x.completionsByOrders(), 83);
            Check.due("the same", () -> x.completions(), 83);
            Check.due("folds nothing", () -> pile(x), "201");
        });
        promise(18, "Returns the number of foldings", () -> {
            Check.due("no sections", () -> new FoldedArchive().completionsByOrders(), 1);
            Check.due("all of one", () -> folded(1, 0).completionsByOrders(), 1);
            Check.due("all of seven", () -> Piles.made(7, "0145632").completionsByOrders(), 1);
            Check.due("one is left, in two ways", () -> Piles.made(7, "014532").completionsByOrders(), 2);
            Check.due("none folded", () -> Check.strip(7).completionsByOrders(), 462);
        });
    }
}
