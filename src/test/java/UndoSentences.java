/** The sentences on undo, snapshots and exceptions: of the terms, and promises 51 to 54. */
final class UndoSentences extends Sentences {
    static void test() {
        changes();
        latestEight();
        whatStays();
        exceptions();
        undo();
        undoCount();
        saveSnapshot();
        restoreSnapshot();
    }

    private static FoldedArchive busy() {
        FoldedArchive archive = Check.strip(4);
        archive.pour(0, 60);
        archive.tag(1, 'a');
        archive.fold(0);
        archive.fold(1);
        archive.layPipe(0, 3, 7);
        archive.layPipe(2, 1, 8);
        archive.breakPipe(1);
        archive.saveSnapshot();
        archive.restoreSnapshot();
        return archive;
    }

    /** What an archive shows of itself, also what no change changes, as far as it shows it without changing it. */
    private static String all(FoldedArchive archive) {
        StringBuilder text = new StringBuilder(Check.dump(archive)).append(" | ").append(archive.undoCount());
        text.append(' ').append(Check.answerOf(() -> archive.faultPosition()));
        text.append(' ').append(Check.answerOf(() -> archive.denial()));
        text.append(' ').append(Check.answerOf(() -> archive.denialDetail()));
        text.append(' ').append(Check.answerOf(() -> archive.denialCause()));
        for (int index = 0; index < 15; index++) {
            int asked = index;
            text.append(' ').append(Check.answerOf(() -> archive.lineCharacter(asked)));
        }
        return text.toString();
    }

    private static void isChange(String told, At call) {
        FoldedArchive x = busy();
        String before = Check.dump(x);
        Check.due(told, () -> call.answer(x, 0) instanceof Integer, true);
        Check.due(told + " is a change", () -> x.undoCount(), 1);
        Check.due(told + " can be undone", () -> x.undo(), 0);
        Check.due(told + " is undone", () -> Check.dump(x), before);
    }

    private static void isNoChange(String told, At call) {
        FoldedArchive x = busy();
        x.addSection();
        Check.answerOf(() -> call.answer(x, 0));
        Check.due(told + " is no change", () -> x.undoCount(), 1);
    }

    private static void changes() {
        terms("The calls of the methods to which commands correspond", () -> {
            isChange("addSection", (x, n) -> x.addSection());
            isChange("pour", (x, n) -> x.pour(3, 5));
            isChange("tag", (x, n) -> x.tag(3, 'b'));
            isChange("untag", (x, n) -> x.untag(1, 'a'));
            isChange("fold", (x, n) -> x.fold(0));
            isChange("unfold", (x, n) -> x.unfold());
            isChange("layPipe", (x, n) -> x.layPipe(3, 1, 20));
            isChange("removePipe", (x, n) -> x.removePipe(0));
            isChange("breakPipe", (x, n) -> x.breakPipe(0));
            isChange("mendPipe", (x, n) -> x.mendPipe(1));
            isChange("drain", (x, n) -> x.drain());
            isChange("seep", (x, n) -> x.seep());
            isChange("execute", (x, n) -> executed(x, "add;pour 4 5;fold 0;cut 0;seep"));
            isChange("a text that leaves all as it was", (x, n) -> executed(x, "open;fold 1"));
            isChange("a drain of nothing", (x, n) -> executed(x, "cut 0;drain"));
            isNoChange("a denied call", (x, n) -> x.tag(1, 'a'));
            isNoChange("a refused call", (x, n) -> x.pour(9, 1));
            isNoChange("a failing text", (x, n) -> executed(x, "add;cut 9"));
            isNoChange("a text with a fault", (x, n) -> executed(x, "add;cut"));
            isNoChange("a search", (x, n) -> searched(x, "a"));
            isNoChange("a count of foldings", (x, n) -> x.completions() + x.completionsByOrders());
            isNoChange("a flow", (x, n) -> x.greatestFlow() + x.smallestCut() + x.lossOf(0));
            isNoChange("a line", (x, n) -> x.writeSection(0) + x.writePile());
            isNoChange("an emptied text", (x, n) -> x.feed('a') + x.clearText());
            isNoChange("a snapshot", (x, n) -> x.saveSnapshot());
        });
    }

    private static void latestEight() {
        terms("The latest 8 changes can be undone", () -> {
            for (int changes : new int[] {7, 8, 9, 16, 17}) {
                FoldedArchive x = Check.strip(1);
                for (int units = 1; units <= changes; units++) {
                    x.pour(0, 1);
                }
                int most = Math.min(changes + 1, 8);
                for (int undone = 1; undone <= Math.min(changes, 8); undone++) {
                    int left = most - undone;
                    int water = changes - undone;
                    Check.due(undone + " of " + changes, () -> x.undo(), left);
                    Check.due("water", () -> x.water(0), water);
                }
            }
        });
        terms("older ones are forgotten", () -> {
            FoldedArchive x = Check.strip(1);
            for (int units = 1; units <= 8; units++) {
                x.pour(0, 1);
            }
            Check.due("not nine", () -> x.undoCount(), 8);
            for (int undone = 1; undone <= 8; undone++) {
                x.undo();
            }
            Check.state("the ninth", () -> x.undo());
            Check.due("the section stays", () -> x.sectionCount(), 1);
            x.pour(0, 9);
            Check.due("nor does it come back", () -> x.undo(), 0);
            Check.state("the ninth still", () -> x.undo());
        });
    }

    private static void whatStays() {
        terms("The text buffer, the fault position, the output line", () -> {
            FoldedArchive x = busy();
            x.addSection();
            Check.feedAll(x, "a#");
            Check.argument("a fault", () -> x.search());
            x.writeSection(0);
            Check.due("a denial", () -> x.tag(1, 'a'), "throws.UnsupportedOperationException");
            stays("before", x);
            x.undo();
            stays("after undo", x);
            x.saveSnapshot();
            stays("after saving", x);
            x.restoreSnapshot();
            stays("after restoring", x);
            Check.due("the text", () -> x.clearText(), 2);
            FoldedArchive y = busy();
            y.addSection();
            y.saveSnapshot();
            Check.feedAll(y, "a#");
            Check.argument("a fault", () -> y.search());
            y.writeSection(0);
            Check.due("a denial", () -> y.tag(1, 'a'), "throws.UnsupportedOperationException");
            y.restoreSnapshot();
            stays("newer than the snapshot", y);
            Check.due("the text", () -> y.clearText(), 2);
        });
    }

    private static void stays(String told, FoldedArchive x) {
        Check.due("fault " + told, () -> x.faultPosition(), 1);
        Check.due("line " + told, () -> Check.line(x, 6), "0:60^0");
        Check.due("denial " + told, () -> x.denial(), 5);
        Check.due("detail " + told, () -> x.denialDetail(), 1);
        Check.due("its text " + told, () -> x.feed('b'), 3);
        x.clearText();
        x.feed('a');
        x.feed('#');
    }

    private static void leavesAll(String told, At call, String exception) {
        FoldedArchive x = busy();
        x.addSection();
        Check.answerOf(() -> x.mendPipe(0));
        Check.feedAll(x, "a#");
        Check.answerOf(() -> x.search());
        x.writeSection(0);
        String before = all(x);
        Check.due(told, () -> call.answer(x, 0), "throws." + exception);
        Check.due(told + " leaves all", () -> all(x), before);
        Check.due(told + " leaves the text", () -> x.clearText(), 2);
        Check.due(told + " leaves what can be undone", () -> x.undo(), 0);
        Check.due(told + " leaves the snapshot", () -> x.restoreSnapshot(), 4);
    }

    /** As leavesAll, but for the denial that the call makes. */
    private static void leavesButDenies(String told, At call) {
        FoldedArchive x = busy();
        x.addSection();
        Check.feedAll(x, "a#");
        Check.answerOf(() -> x.search());
        x.writeSection(0);
        String before = Check.dump(x);
        Check.due(told, () -> call.answer(x, 0), "throws.UnsupportedOperationException");
        Check.due(told + " leaves the state", () -> Check.dump(x), before);
        Check.due(told + " leaves the fault", () -> x.faultPosition(), 1);
        Check.due(told + " leaves the line", () -> Check.line(x, 6), "0:60^0");
        Check.due(told + " leaves the text", () -> x.clearText(), 2);
        Check.due(told + " leaves what can be undone", () -> x.undo(), 0);
    }

    private static void exceptions() {
        terms("A method that throws an exception does not change", () -> {
            String index = "IndexOutOfBoundsException";
            String argument = "IllegalArgumentException";
            String missing = "NoSuchElementException";
            leavesAll("pour", (x, n) -> x.pour(5, 1), index);
            leavesAll("pour", (x, n) -> x.pour(0, 100), argument);
            leavesAll("tag", (x, n) -> x.tag(5, 'a'), index);
            leavesAll("tag", (x, n) -> x.tag(0, 'i'), argument);
            leavesAll("untag", (x, n) -> x.untag(5, 'a'), index);
            leavesAll("untag", (x, n) -> x.untag(0, 'i'), argument);
            leavesAll("water", (x, n) -> x.water(5), index);
            leavesAll("hasTerm", (x, n) -> x.hasTerm(5, 'a'), index);
            leavesAll("hasTerm", (x, n) -> x.hasTerm(0, 'i'), argument);
            leavesAll("sectionsWith", (x, n) -> x.sectionsWith('i'), argument);
            leavesAll("sectionByWater", (x, n) -> x.sectionByWater(5), missing);
            leavesAll("fold", (x, n) -> x.fold(3), index);
            leavesAll("layerOf", (x, n) -> x.layerOf(5), index);
            leavesAll("layerOf", (x, n) -> x.layerOf(4), missing);
            leavesAll("sectionIn", (x, n) -> x.sectionIn(2), index);
            leavesAll("canFold", (x, n) -> x.canFold(3), index);
            leavesAll("layPipe", (x, n) -> x.layPipe(0, 5, 1), index);
            leavesAll("layPipe", (x, n) -> x.layPipe(0, 1, 21), argument);
            leavesAll("removePipe", (x, n) -> x.removePipe(2), index);
            leavesAll("breakPipe", (x, n) -> x.breakPipe(2), index);
            leavesAll("mendPipe", (x, n) -> x.mendPipe(2), index);
            leavesAll("pipeFrom", (x, n) -> x.pipeFrom(2), index);
            leavesAll("lossOf", (x, n) -> x.lossOf(2), index);
            leavesAll("matches", (x, n) -> x.matches(5), index);
            leavesAll("matches", (x, n) -> x.matches(0), argument);
            leavesAll("search", (x, n) -> x.search(), argument);
            leavesAll("writeSection", (x, n) -> x.writeSection(5), index);
            leavesAll("lineCharacter", (x, n) -> x.lineCharacter(6), index);
            leavesAll("denialCause", (x, n) -> x.denialCause(), missing);
            denialsLeaveTheState();
            refusalsWithoutSnapshotOrChange();
        });
        terms("If the conditions of several exceptions hold", UndoSentences::firstOfSeveral);
    }

    private static void denialsLeaveTheState() {
        leavesButDenies("pour", (x, n) -> x.pour(0, 40));
        leavesButDenies("tag", (x, n) -> x.tag(1, 'a'));
        leavesButDenies("untag", (x, n) -> x.untag(1, 'b'));
        leavesButDenies("breakPipe", (x, n) -> x.breakPipe(1));
        leavesButDenies("mendPipe", (x, n) -> x.mendPipe(0));
        FoldedArchive full = Piles.made(7, "021");
        for (int pipe = 0; pipe < 10; pipe++) {
            full.layPipe(0, 1, 1);
        }
        String before = Check.dump(full);
        Check.denied("an eighth section", full, () -> full.addSection(), 1, 7);
        Check.denied("an eleventh pipe", full, () -> full.layPipe(0, 1, 1), 1, 10);
        Check.denied("a crossing", full, () -> full.fold(0), 4, 0);
        Check.due("leave the state", () -> Check.dump(full), before);
        FoldedArchive one = Check.strip(1);
        one.pour(0, 50);
        String small = Check.dump(one);
        Check.denied("too few", one, () -> one.drain(), 7, 1);
        Check.denied("none to seep through", one, () -> one.seep(), 3, 1);
        Check.denied("none to unfold", one, () -> one.unfold(), 3, 1);
        Check.due("leave the state", () -> Check.dump(one), small);
        Check.due("and what can be undone", () -> one.undoCount(), 2);
    }

    private static void refusalsWithoutSnapshotOrChange() {
        FoldedArchive x = Check.strip(2);
        String before = all(x);
        Check.state("no snapshot", () -> x.restoreSnapshot());
        Check.due("leaves all", () -> all(x), before);
        x.undo();
        x.undo();
        Check.state("no change", () -> x.undo());
        Check.due("leaves no sections", () -> x.sectionCount(), 0);
        Check.due("nor a count below 0", () -> x.undoCount(), 0);
        for (int fed = 0; fed < 60; fed++) {
            x.feed('a');
        }
        Check.state("a full text", () -> x.feed('+'));
        Check.due("leaves the text", () -> x.search(), 0);
        Check.due("at its length", () -> x.clearText(), 60);
        FoldedArchive y = Check.strip(1);
        executed(y, "pour 0 9;fold 0");
        String ready = Check.dump(y);
        Check.due("a failing text", () -> executed(y, "add;pour 1 5;tag 1a;fold 0;pipe 0>1 5;drain;seep;cut 1"),
            "throws.UnsupportedOperationException");
        Check.due("leaves the state", () -> Check.dump(y), ready);
        Check.due("but not the text", () -> y.clearText(), 0);
        Check.due("and what can be undone", () -> y.undo(), 1);
        Check.due("which is the text before", () -> y.water(0), 0);
    }

    private static void firstOfSeveral() {
        FoldedArchive x = Check.strip(7);
        x.pour(0, 99);
        x.tag(0, 'a');
        for (int pipe = 0; pipe < 10; pipe++) {
            x.layPipe(0, 1, 1);
        }
        Check.index("pour, section and units", () -> x.pour(7, 0));
        Check.argument("pour, units and limit", () -> x.pour(0, 100));
        Check.index("tag, section and term", () -> x.tag(7, 'i'));
        Check.index("untag, section and term", () -> x.untag(7, 'i'));
        Check.index("hasTerm, section and term", () -> x.hasTerm(7, 'i'));
        Check.index("layPipe, section and capacity", () -> x.layPipe(7, 0, 0));
        Check.index("layPipe, the same that there is not", () -> x.layPipe(7, 7, 1));
        Check.index("layPipe, section and limit", () -> x.layPipe(0, 7, 1));
        Check.argument("layPipe, the same and limit", () -> x.layPipe(1, 1, 1));
        Check.argument("layPipe, capacity and limit", () -> x.layPipe(0, 1, 0));
        Check.missing("none was denied", () -> x.denial());
        Check.index("layerOf, section and not folded", () -> x.layerOf(7));
        Check.index("matches, section and text", () -> x.matches(7));
        Check.missing("no fault was kept", () -> x.faultPosition());
        Check.argument("execute, a fault behind a command that would fail", () -> executed(x, "add;x"));
        Check.missing("none was denied", () -> x.denial());
        FoldedArchive y = folded(2, 0, 1);
        Check.index("fold, layer and all folded", () -> y.fold(3));
        Check.index("canFold, layer and all folded", () -> y.canFold(3));
        Check.index("fold, no such layer and no section", () -> new FoldedArchive().fold(1));
        Check.missing("none was denied", () -> y.denial());
    }

    private static void undo() {
        promise(51, "Undoes the latest change that can be undone", () -> {
            FoldedArchive x = Check.strip(2);
            x.pour(0, 5);
            x.pour(1, 6);
            x.undo();
            Check.due("the latest", () -> x.water(1), 0);
            Check.due("not the one before", () -> x.water(0), 5);
            x.undo();
            Check.due("then the one before", () -> x.water(0), 0);
            x.pour(0, 7);
            x.undo();
            Check.due("a new one", () -> x.water(0), 0);
            Check.due("not itself", () -> x.undo(), 1);
            Check.due("but the one before", () -> x.sectionCount(), 1);
        });
        promise(51, "Returns the number of changes that can be undone", () -> {
            FoldedArchive x = Check.strip(7);
            x.pour(0, 1);
            x.pour(0, 1);
            for (int left = 7; left >= 0; left--) {
                int due = left;
                Check.due("left", () -> x.undo(), due);
            }
        });
        promise(51, "Throws `IllegalStateException`", () -> {
            FoldedArchive x = new FoldedArchive();
            Check.state("new", () -> x.undo());
            x.addSection();
            x.undo();
            Check.state("all undone", () -> x.undo());
            x.addSection();
            x.saveSnapshot();
            x.restoreSnapshot();
            Check.state("restored", () -> x.undo());
        });
    }

    private static void undoCount() {
        promise(52, "Returns the number of changes that can be undone", () -> {
            FoldedArchive x = Check.strip(3);
            x.pour(0, 1);
            Check.due("four", () -> x.undoCount(), 4);
            x.undo();
            Check.due("three", () -> x.undoCount(), 3);
            executed(x, "pour 0 1;pour 0 1;pour 0 1");
            Check.due("a text is one", () -> x.undoCount(), 4);
        });
        promise(52, "Returns the number of changes.", () -> {
            FoldedArchive x = new FoldedArchive();
            for (int count = 0; count < 8; count++) {
                int due = count;
                Check.due("from none", () -> x.undoCount(), due);
                Check.answerOf(() -> due < 7 ? x.addSection() : x.pour(0, 1));
            }
            Check.due("to eight", () -> x.undoCount(), 8);
            x.pour(0, 1);
            Check.due("not nine", () -> x.undoCount(), 8);
        });
    }

    private static void saveSnapshot() {
        promise(53, "Saves a snapshot of everything", () -> {
            FoldedArchive x = busy();
            x.pour(0, 30);
            x.seep();
            String saved = Check.dump(x);
            x.saveSnapshot();
            executed(x, "add;pour 3 5;pour 0 50;untag 1a;tag 2h;open;seep");
            executed(x, "fold 0;fold 0;mend 1;break 0;drain;pour 1 30;seep");
            x.restoreSnapshot();
            Check.due("everything", () -> Check.dump(x), saved);
            executed(x, "cut 0;cut 0;pipe 1>2 3;pipe 3>0 4;open;open");
            x.restoreSnapshot();
            Check.due("everything of the pipes and the pile", () -> Check.dump(x), saved);
        });
        promise(53, "it replaces an earlier snapshot", () -> {
            FoldedArchive x = new FoldedArchive();
            x.saveSnapshot();
            x.addSection();
            x.saveSnapshot();
            x.addSection();
            Check.due("the later one", () -> x.restoreSnapshot(), 1);
            x.undoCount();
            Check.due("the earlier one is gone", () -> x.restoreSnapshot(), 1);
        });
        promise(53, "Returns the number of sections", () -> {
            FoldedArchive x = new FoldedArchive();
            for (int sections = 0; sections <= 7; sections++) {
                Check.due("sections", () -> x.saveSnapshot(), sections);
                Check.answerOf(() -> x.addSection());
            }
        });
    }

    private static void restoreSnapshot() {
        promise(54, "Restores the snapshot, which is kept", () -> {
            FoldedArchive x = Check.strip(1);
            x.pour(0, 5);
            x.saveSnapshot();
            for (int times = 0; times < 3; times++) {
                x.pour(0, 6);
                x.tag(0, 'a');
                x.restoreSnapshot();
                Check.due("water", () -> x.water(0), 5);
                Check.due("terms", () -> x.sectionsWith('a'), 0);
            }
            x.pour(0, 6);
            x.undo();
            Check.due("undo doesn't touch it", () -> x.restoreSnapshot(), 1);
        });
        promise(54, "No change can be undone afterwards", () -> {
            FoldedArchive x = Check.strip(7);
            x.pour(0, 5);
            x.saveSnapshot();
            Check.due("saving forgets none", () -> x.undoCount(), 8);
            x.restoreSnapshot();
            Check.due("none", () -> x.undoCount(), 0);
            Check.state("none", () -> x.undo());
            x.pour(0, 6);
            Check.due("those made later", () -> x.undo(), 0);
            Check.due("can be undone", () -> x.water(0), 5);
        });
        promise(54, "Returns the number of sections afterwards", () -> {
            for (int sections = 0; sections <= 7; sections++) {
                FoldedArchive x = Check.strip(sections);
                x.saveSnapshot();
                Check.answerOf(() -> x.addSection());
                Check.due("sections", () -> x.restoreSnapshot(), sections);
            }
        });
        promise(54, "Throws `IllegalStateException`", () -> {
            FoldedArchive x = Check.strip(1);
            Check.state("none yet", () -> x.restoreSnapshot());
            Check.due("what can be undone stays", () -> x.undoCount(), 1);
            x.saveSnapshot();
            Check.due("one", () -> x.restoreSnapshot(), 1);
        });
    }
}
