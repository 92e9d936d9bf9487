/** Promises 48 to 54, and that a call that throws changes nothing. */
public final class MemoryTest {
    public static void main(String[] args) {
        denials();
        undoOfEachChange();
        undoDepth();
        whatUndoLeaves();
        snapshots();
        throwingChangesNothing();
        Check.end();
    }

    private static void latest(String told, FoldedArchive x, int number, int detail, Object cause) {
        Check.due("48: " + told, () -> x.denial(), number);
        Check.due("49: " + told, () -> x.denialDetail(), detail);
        Check.due("50: " + told, () -> x.denialCause(), cause);
    }

    private static void denials() {
        FoldedArchive x = new FoldedArchive();
        Check.missing("48: none yet", () -> x.denial());
        Check.missing("49: none yet", () -> x.denialDetail());
        Check.missing("50: none yet", () -> x.denialCause());
        Check.index("48: another exception", () -> x.pour(0, 1));
        Check.missing("48: is no denial", () -> x.denial());
        Check.answerOf(() -> x.seep());
        latest("seep", x, 3, 0, "throws.NoSuchElementException");
        x.addSection();
        x.addSection();
        latest("kept", x, 3, 0, "throws.NoSuchElementException");
        Check.feedAll(x, "add;untag 0a");
        Check.answerOf(() -> x.execute());
        latest("execute", x, 8, 1, 5);
        Check.argument("48: another exception", () -> x.pour(0, 100));
        latest("kept through another exception", x, 8, 1, 5);
        x.undo();
        latest("kept through undo", x, 8, 1, 5);
        Check.answerOf(() -> x.greatestFlow());
        latest("the cause is gone", x, 7, 1, "throws.NoSuchElementException");
    }

    private static void undone(FoldedArchive x, String told, Check.Call call) {
        String before = Check.dump(x);
        int changes = x.undoCount();
        call.answer();
        Check.due("52: " + told, () -> x.undoCount(), Math.min(changes + 1, 8));
        Check.due("51: " + told, () -> x.undo(), Math.min(changes, 7));
        Check.due("51: state before " + told, () -> Check.dump(x), before);
        call.answer();
    }

    private static void undoOfEachChange() {
        FoldedArchive x = new FoldedArchive();
        undone(x, "addSection", () -> x.addSection());
        undone(x, "addSection", () -> x.addSection());
        undone(x, "addSection", () -> x.addSection());
        undone(x, "pour", () -> x.pour(0, 80));
        undone(x, "tag", () -> x.tag(1, 'c'));
        undone(x, "untag", () -> x.untag(1, 'c'));
        undone(x, "fold", () -> x.fold(0));
        undone(x, "fold", () -> x.fold(0));
        undone(x, "fold", () -> x.fold(0));
        undone(x, "unfold", () -> x.unfold());
        undone(x, "layPipe", () -> x.layPipe(0, 2, 9));
        undone(x, "layPipe", () -> x.layPipe(0, 1, 8));
        undone(x, "breakPipe", () -> x.breakPipe(1));
        undone(x, "drain", () -> x.drain());
        undone(x, "seep", () -> x.seep());
        undone(x, "mendPipe", () -> x.mendPipe(1));
        undone(x, "removePipe", () -> x.removePipe(0));
        undone(x, "execute", () -> {
            Check.feedAll(x, "add;pour 3 5;pipe 3>0 2");
            return x.execute();
        });
        undone(x, "a drain of nothing", () -> x.drain());
        undone(x, "a text that does nothing", () -> {
            Check.feedAll(x, "open;fold 0");
            return x.execute();
        });
    }

    private static void undoDepth() {
        FoldedArchive x = new FoldedArchive();
        Check.state("51: nothing", () -> x.undo());
        x.addSection();
        for (int units = 1; units <= 9; units++) {
            x.pour(0, 1);
        }
        Check.due("52: eight of ten", () -> x.undoCount(), 8);
        for (int left = 7; left >= 0; left--) {
            int due = left;
            Check.due("51: left", () -> x.undo(), due);
            Check.due("51: water", () -> x.water(0), due + 1);
        }
        Check.state("51: older ones are forgotten", () -> x.undo());
        Check.due("52: none", () -> x.undoCount(), 0);
        Check.due("51: the oldest stay", () -> x.water(0), 1);
        x.pour(0, 5);
        x.pour(0, 6);
        Check.due("51: after forgetting", () -> x.undo(), 1);
        Check.due("51: water", () -> x.water(0), 6);
        x.pour(0, 7);
        Check.due("52: a change in place of an undone one", () -> x.undoCount(), 2);
        x.undo();
        Check.due("51: water", () -> x.water(0), 6);
        x.undo();
        Check.due("51: water", () -> x.water(0), 1);
    }

    private static void whatUndoLeaves() {
        FoldedArchive x = Check.strip(2);
        Check.feedAll(x, "a b");
        Check.answerOf(() -> x.search());
        x.writeSection(1);
        x.saveSnapshot();
        x.undo();
        Check.due("51: the fault stays", () -> x.faultPosition(), 1);
        Check.due("51: the line stays", () -> Check.line(x, 3), "1:0");
        Check.due("51: the text stays", () -> x.clearText(), 3);
        Check.due("51: the snapshot stays", () -> x.restoreSnapshot(), 2);
    }

    private static void snapshots() {
        FoldedArchive x = new FoldedArchive();
        Check.state("54: none", () -> x.restoreSnapshot());
        Check.due("53: of nothing", () -> x.saveSnapshot(), 0);
        Check.feedAll(x, "add;add;pour 0 90;pour 1 9;tag 1e;fold 0;seep;pipe 1>0 4");
        x.execute();
        x.breakPipe(0);
        String saved = Check.dump(x);
        Check.due("53: replaces the earlier one", () -> x.saveSnapshot(), 2);
        Check.due("53: is no change", () -> x.undoCount(), 2);
        Check.due("53: changes nothing", () -> Check.dump(x), saved);
        Check.feedAll(x, "add;untag 1e;open;mend 0;pour 2 3;pipe 0>2 4");
        x.execute();
        Check.feedAll(x, "a b");
        Check.answerOf(() -> x.search());
        Check.answerOf(() -> x.mendPipe(0));
        int length = x.writeSection(1);
        Check.due("54: sections", () -> x.restoreSnapshot(), 2);
        Check.due("54: everything", () -> Check.dump(x), saved);
        Check.due("54: nothing to undo", () -> x.undoCount(), 0);
        Check.state("54: nothing to undo", () -> x.undo());
        Check.due("54: the fault stays", () -> x.faultPosition(), 1);
        Check.due("54: the denial stays", () -> x.denial(), 6);
        Check.due("54: the line stays", () -> Check.line(x, length), "1:9");
        Check.due("54: the text stays", () -> x.clearText(), 3);
        x.addSection();
        x.pour(0, 1);
        Check.due("54: is kept", () -> x.restoreSnapshot(), 2);
        Check.due("54: unchanged", () -> Check.dump(x), saved);
        x.pour(1, 1);
        Check.due("51: after restoring", () -> x.undo(), 0);
        Check.due("51: back to it", () -> Check.dump(x), saved);
    }

    private static void throwingChangesNothing() {
        FoldedArchive x = Check.strip(4);
        x.pour(0, 99);
        x.tag(0, 'a');
        x.fold(0);
        x.fold(1);
        x.fold(1);
        x.layPipe(0, 3, 5);
        String before = Check.dump(x);
        Check.Call[] calls = {() -> x.pour(0, 1), () -> x.pour(9, 1), () -> x.pour(0, 0), () -> x.tag(0, 'a'),
            () -> x.untag(0, 'b'), () -> x.fold(0), () -> x.fold(9), () -> x.layPipe(0, 0, 5), () -> x.layPipe(0, 1, 0),
            () -> x.removePipe(1), () -> x.breakPipe(1), () -> x.mendPipe(0)};
        for (Check.Call call : calls) {
            Check.due("throws", () -> Check.answerOf(call).startsWith("throws."), true);
            Check.due("51: no change", () -> x.undoCount(), 8);
            Check.due("51: same state", () -> Check.dump(x), before);
        }
        x.undo();
        Check.due("51: undoes the latest that did not throw", () -> x.pipeCount(), 0);
    }
}
