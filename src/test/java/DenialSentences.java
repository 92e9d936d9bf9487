/** The sentences on denials: of the terms, and promises 48 to 50. */
final class DenialSentences extends Sentences {
    static void test() {
        whatIsDenied();
        limits();
        layers();
        states();
        texts();
        denial();
        denialDetail();
        denialCause();
    }

    private static FoldedArchive denied(FoldedArchive archive, Check.Call call) {
        Check.due("denied", call, "throws.UnsupportedOperationException");
        return archive;
    }

    private static void detail(FoldedArchive x, Check.Call call, int due) {
        denied(x, call);
        Check.due("detail", () -> x.denialDetail(), due);
    }

    private static void number(FoldedArchive x, Check.Call call, int due) {
        denied(x, call);
        Check.due("number", () -> x.denial(), due);
    }

    private static void whatIsDenied() {
        terms("Some calls are denied for a reason", () -> {
            FoldedArchive x = piped(2, 5);
            Check.Call[] others = {() -> x.pour(2, 1), () -> x.pour(0, 0), () -> x.tag(0, 'i'), () -> x.fold(1),
                () -> x.layPipe(0, 0, 1), () -> x.removePipe(1), () -> x.sectionByWater(2), () -> x.layerOf(0),
                () -> x.leakedShare(), () -> x.execute(), () -> x.search(), () -> x.lineCharacter(0),
                () -> x.denialCause(), () -> x.restoreSnapshot(), () -> new FoldedArchive().undo()};
            for (int call = 0; call < others.length; call++) {
                Check.Call other = others[call];
                Check.due("call " + call, () -> Check.answerOf(other).startsWith("throws."), true);
                Check.missing("is no denial", () -> x.denial());
            }
            FoldedArchive y = folded(1, 0);
            Check.due("what can't be folded", () -> y.canFold(0), false);
            Check.missing("is no denial", () -> y.denial());
            Check.denied("has a number and a detail", x, () -> x.mendPipe(0), 6, 5);
        });
        terms("Each method lists its possible denials", () -> {
            for (String pile : new String[] {"0", "10", "0321", "0145632"}) {
                FoldedArchive x = Piles.made(pile.length(), pile);
                for (int layer = 0; layer <= pile.length(); layer++) {
                    int into = layer;
                    Check.denied("2 ahead of 4", x, () -> x.fold(into), 2, pile.length());
                }
            }
        });
    }

    private static void limits() {
        terms("Denial 1: a limit is reached", () -> {
            FoldedArchive x = marked();
            number(x, () -> x.addSection(), 1);
            FoldedArchive y = marked();
            number(y, () -> y.pour(6, 39), 1);
            FoldedArchive z = piped(2, 1, 1, 1, 1, 1, 1, 1, 1, 1, 1);
            number(z, () -> z.layPipe(0, 1, 1), 1);
            FoldedArchive w = Check.strip(6);
            w.addSection();
            w.pour(0, 99);
            Check.missing("what comes up to a limit isn't denied", () -> w.denial());
        });
        terms("Denial 1", "the detail is the limit", () -> {
            FoldedArchive x = Check.strip(7);
            detail(x, () -> x.addSection(), 7);
            x.pour(3, 50);
            detail(x, () -> x.pour(3, 60), 99);
            FoldedArchive z = piped(2, 1, 1, 1, 1, 1, 1, 1, 1, 1, 1);
            detail(z, () -> z.layPipe(0, 1, 1), 10);
        });
    }

    private static void layers() {
        terms("Denial 2: all sections are folded", () -> {
            FoldedArchive none = new FoldedArchive();
            number(none, () -> none.fold(0), 2);
            FoldedArchive all = folded(7, 0, 1, 2, 3, 4, 5, 6);
            number(all, () -> all.fold(7), 2);
            FoldedArchive x = folded(2, 0);
            x.fold(1);
            Check.missing("the last one isn't denied", () -> x.denial());
        });
        terms("Denial 2", "the detail is their number", () -> {
            for (int sections = 0; sections <= 7; sections++) {
                FoldedArchive x = Check.strip(sections);
                for (int section = 0; section < sections; section++) {
                    x.fold(0);
                }
                detail(x, () -> x.fold(0), sections);
            }
        });
        terms("Denial 3: no section is folded", () -> {
            FoldedArchive x = Check.strip(3);
            number(x, () -> x.unfold(), 3);
            FoldedArchive y = Check.strip(3);
            number(y, () -> y.seep(), 3);
            FoldedArchive z = folded(3, 0);
            z.seep();
            z.unfold();
            Check.missing("with one it isn't denied", () -> z.denial());
        });
        terms("the detail is the number of sections", () -> {
            for (int sections = 0; sections <= 7; sections++) {
                FoldedArchive x = Check.strip(sections);
                detail(x, () -> x.unfold(), sections);
                FoldedArchive y = Check.strip(sections);
                detail(y, () -> y.seep(), sections);
            }
        });
        terms("Denial 4: creases would cross", () -> {
            FoldedArchive x = Piles.made(7, "021");
            number(x, () -> x.fold(0), 4);
            FoldedArchive y = Piles.made(7, "0145632".replace("6", ""));
            number(y, () -> y.fold(0), 4);
            FoldedArchive z = Piles.made(7, "021");
            z.fold(1);
            Check.missing("where they don't, it isn't denied", () -> z.denial());
        });
        terms("the detail is the lowest number of a crease", () -> {
            FoldedArchive two = Piles.made(6, "01243");
            detail(two, () -> two.fold(1), 0);
            FoldedArchive high = Piles.made(7, "012354");
            detail(high, () -> high.fold(2), 1);
            for (int sections = 4; sections <= 7; sections++) {
                for (String pile : Piles.foldings(sections - 1)) {
                    for (int layer = 0; layer < sections; layer++) {
                        int into = layer;
                        int crossed = Piles.lowestCrossing(Piles.with(pile, layer), sections - 2);
                        if (crossed >= 0) {
                            FoldedArchive x = Piles.made(sections, pile);
                            detail(x, () -> x.fold(into), crossed);
                        }
                    }
                }
            }
        });
    }

    private static void states() {
        terms("Denial 5: the section has the term", () -> {
            FoldedArchive x = marked();
            number(x, () -> x.tag(6, 'f'), 5);
            FoldedArchive y = marked();
            number(y, () -> y.untag(6, 'g'), 5);
            FoldedArchive z = marked();
            z.tag(6, 'g');
            z.untag(6, 'f');
            Check.missing("the other way it isn't denied", () -> z.denial());
        });
        terms("the detail is the number of its terms", () -> {
            FoldedArchive x = marked();
            for (int section = 0; section < 7; section++) {
                int asked = section;
                detail(x, () -> x.untag(asked, 'h'), section);
                if (section > 0) {
                    detail(x, () -> x.tag(asked, 'a'), section);
                }
            }
            x.tag(6, 'g');
            x.tag(6, 'h');
            detail(x, () -> x.tag(6, 'h'), 8);
        });
        terms("Denial 6: the pipe is broken", () -> {
            FoldedArchive x = piped(2, 5);
            number(x, () -> x.mendPipe(0), 6);
            FoldedArchive y = piped(2, 5);
            y.breakPipe(0);
            Check.missing("the other way it isn't denied", () -> y.denial());
            number(y, () -> y.breakPipe(0), 6);
        });
        terms("the detail is its capacity", () -> {
            for (int capacity = 1; capacity <= 20; capacity++) {
                FoldedArchive x = piped(2, 7, capacity, 8);
                detail(x, () -> x.mendPipe(1), capacity);
                x.breakPipe(1);
                detail(x, () -> x.breakPipe(1), capacity);
            }
        });
        terms("Denial 7: there are fewer than 2 sections", () -> {
            for (int sections = 0; sections < 2; sections++) {
                FoldedArchive x = Check.strip(sections);
                number(x, () -> x.greatestFlow(), 7);
                FoldedArchive y = Check.strip(sections);
                number(y, () -> y.smallestCut(), 7);
                FoldedArchive z = Check.strip(sections);
                number(z, () -> z.drain(), 7);
            }
            FoldedArchive two = Check.strip(2);
            two.greatestFlow();
            two.smallestCut();
            two.drain();
            Check.missing("two are not denied", () -> two.denial());
        });
        terms("Denial 7", "the detail is their number", () -> {
            for (int sections = 0; sections < 2; sections++) {
                FoldedArchive x = Check.strip(sections);
                detail(x, () -> x.greatestFlow(), sections);
                FoldedArchive y = Check.strip(sections);
                detail(y, () -> y.smallestCut(), sections);
                FoldedArchive z = Check.strip(sections);
                detail(z, () -> z.drain(), sections);
            }
        });
    }

    private static void cause(String told, FoldedArchive x, String text, int due) {
        denied(x, () -> executed(x, text));
        Check.due("denial of " + told, () -> x.denial(), 8);
        Check.due("cause of " + told, () -> x.denialCause(), due);
    }

    private static void texts() {
        terms("Denial 8: a command of a text failed", () -> {
            FoldedArchive x = Check.strip(1);
            number(x, () -> executed(x, "open"), 8);
            FoldedArchive y = Check.strip(1);
            number(y, () -> executed(y, "pour 1 1"), 8);
            FoldedArchive z = Check.strip(1);
            Check.argument("no text", () -> executed(z, "opens"));
            Check.missing("is no denial", () -> z.denial());
            executed(z, "add;fold 0;open");
            Check.missing("nor is a text that succeeds", () -> z.denial());
        });
        terms("the detail is the index of the command", () -> {
            FoldedArchive x = Check.strip(6);
            detail(x, () -> executed(x, "open"), 0);
            detail(x, () -> executed(x, "add;add;add"), 1);
            detail(x, () -> executed(x, "add;fold 0;open;open;open"), 3);
            FoldedArchive y = new FoldedArchive();
            detail(y, () -> executed(y, "add;add;add;add;add;add;add;fold 0;seep;seep;seep;open;open"), 12);
        });
        terms("Only denial 8 has a cause", () -> {
            FoldedArchive x = marked();
            cause("a limit", x, "tag 0a;add", 1);
            Check.denied("a limit itself has none", x, () -> x.addSection(), 1, 7);
            cause("no such section", x, "pour 7 1", 9);
            cause("no such units", x, "pour 0 0", 9);
            cause("no such units in a section that would be full", x, "pour 0 99;pour 0 00", 1);
            cause("no such layer", x, "fold 1", 9);
            cause("no such pipe", x, "cut 0", 9);
            cause("the same sections", x, "pipe 0>0 1", 9);
            cause("no such capacity", x, "pipe 0>1 21", 9);
            Check.denied("none folded has none", x, () -> x.seep(), 3, 7);
        });
        terms("The number, the detail and the cause of the latest", () -> {
            FoldedArchive x = Check.strip(2);
            denied(x, () -> executed(x, "add;open"));
            x.addSection();
            x.undo();
            x.saveSnapshot();
            x.restoreSnapshot();
            Check.index("another exception", () -> x.fold(9));
            Check.argument("a fault", () -> x.execute());
            executed(x, "add;fold 0");
            Check.due("number kept", () -> x.denial(), 8);
            Check.due("detail kept", () -> x.denialDetail(), 1);
            Check.due("cause kept", () -> x.denialCause(), 3);
            Check.denied("until the next", x, () -> x.untag(0, 'a'), 5, 0);
            denied(x, () -> executed(x, "break 0"));
            Check.due("next number", () -> x.denial(), 8);
            Check.due("next detail", () -> x.denialDetail(), 0);
            Check.due("next cause", () -> x.denialCause(), 9);
        });
    }

    private static void denial() {
        promise(48, "Returns the number of the latest denial", () -> {
            FoldedArchive x = Check.strip(1);
            number(x, () -> x.unfold(), 3);
            number(x, () -> x.drain(), 7);
            Check.due("asked again", () -> x.denial(), 7);
            number(x, () -> x.untag(0, 'a'), 5);
        });
        promise(48, "Returns the number, 1 to 8", () -> {
            FoldedArchive x = marked();
            number(x, () -> x.addSection(), 1);
            number(x, () -> x.seep(), 3);
            number(x, () -> x.tag(1, 'a'), 5);
            x.layPipe(0, 1, 1);
            number(x, () -> x.mendPipe(0), 6);
            x.fold(0);
            x.fold(1);
            x.fold(1);
            number(x, () -> x.fold(0), 4);
            number(x, () -> executed(x, "cut 1"), 8);
            FoldedArchive y = folded(1, 0);
            number(y, () -> y.fold(0), 2);
            number(y, () -> y.smallestCut(), 7);
        });
        promise(48, "Throws `NoSuchElementException`", () -> {
            FoldedArchive x = Check.strip(1);
            Check.missing("new", () -> x.denial());
            Check.index("another exception", () -> x.pour(1, 1));
            x.canFold(0);
            executed(x, "add");
            Check.missing("nothing denied", () -> x.denial());
            number(x, () -> x.seep(), 3);
        });
    }

    private static void denialDetail() {
        promise(49, "Returns the detail of the latest denial", () -> {
            FoldedArchive x = Check.strip(1);
            detail(x, () -> x.unfold(), 1);
            x.pour(0, 60);
            detail(x, () -> x.pour(0, 60), 99);
            Check.due("asked again", () -> x.denialDetail(), 99);
        });
        promise(49, "Returns the detail.", () -> {
            FoldedArchive x = new FoldedArchive();
            detail(x, () -> x.fold(0), 0);
            x.addSection();
            x.pour(0, 99);
            detail(x, () -> x.pour(0, 1), 99);
        });
        promise(49, "Throws `NoSuchElementException`", () -> {
            FoldedArchive x = Check.strip(1);
            Check.missing("new", () -> x.denialDetail());
            Check.index("another exception", () -> x.pour(1, 1));
            Check.missing("nothing denied", () -> x.denialDetail());
            detail(x, () -> x.seep(), 1);
        });
    }

    private static void denialCause() {
        promise(50, "Returns the number of the cause", () -> {
            FoldedArchive x = Check.strip(1);
            cause("a pile of none", x, "open", 3);
            cause("too few sections", x, "drain", 7);
            Check.due("asked again", () -> x.denialCause(), 7);
        });
        promise(50, "Returns the number, 1 to 7 or 9", () -> {
            FoldedArchive x = folded(4, 0, 1, 1);
            x.layPipe(0, 1, 5);
            cause("a limit", x, "add;add;add;add", 1);
            cause("all folded", x, "fold 1;fold 0", 2);
            cause("none folded", x, "open;open;open;open", 3);
            cause("creases", x, "fold 0", 4);
            cause("a term that it has", x, "tag 0a;tag 0a", 5);
            cause("a term that it doesn't have", x, "untag 0a", 5);
            cause("a broken pipe", x, "break 0;break 0", 6);
            cause("a whole pipe", x, "mend 0", 6);
            cause("no such pipe", x, "mend 1", 9);
            FoldedArchive y = Check.strip(1);
            cause("too few sections", y, "drain", 7);
        });
        promise(50, "Throws `NoSuchElementException`", () -> {
            FoldedArchive x = Check.strip(1);
            Check.missing("nothing denied yet", () -> x.denialCause());
            denied(x, () -> x.seep());
            Check.missing("has no cause", () -> x.denialCause());
            cause("a text", x, "seep", 3);
            denied(x, () -> x.seep());
            Check.missing("the latest has no cause any more", () -> x.denialCause());
        });
    }
}
