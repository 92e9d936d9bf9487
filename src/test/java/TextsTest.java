/** Promises 39 to 47. */
public final class TextsTest {
    public static void main(String[] args) {
        buffer();
        searching();
        searchFaults();
        executing();
        commandFaults();
        allOrNone();
        faultPosition();
        lines();
        Check.end();
    }

    private static void buffer() {
        FoldedArchive x = new FoldedArchive();
        Check.due("40: empty", () -> x.clearText(), 0);
        for (int length = 1; length <= 60; length++) {
            char sign = (char) (length * 1000);
            Check.due("39: any character", () -> x.feed(sign), length);
        }
        Check.state("39: full", () -> x.feed('a'));
        Check.due("40: length before", () -> x.clearText(), 60);
        Check.due("40: is empty", () -> x.clearText(), 0);
        Check.due("39: from the start again", () -> x.feed('a'), 1);
        Check.due("39: is no change", () -> x.undoCount(), 0);
    }

    /** Sections 0 to 4 with the terms none, a, ab, bc and abch. */
    private static FoldedArchive tagged() {
        FoldedArchive x = Check.strip(5);
        String[] terms = {"", "a", "ab", "bc", "abch"};
        for (int section = 0; section < terms.length; section++) {
            for (char term : terms[section].toCharArray()) {
                x.tag(section, term);
            }
        }
        return x;
    }

    private static void found(String text, boolean... due) {
        FoldedArchive x = tagged();
        Check.feedAll(x, text);
        int count = 0;
        for (int section = 0; section < due.length; section++) {
            int asked = section;
            count += due[section] ? 1 : 0;
            Check.due("42: " + text + " for " + section, () -> x.matches(asked), due[section]);
        }
        Check.due("41: " + text, () -> x.search(), count);
        Check.due("41: " + text + " stays", () -> x.clearText(), text.length());
    }

    private static void searching() {
        found("a", false, true, true, false, true);
        found("h", false, false, false, false, true);
        found("d", false, false, false, false, false);
        found("-a", true, false, false, true, false);
        found("--a", false, true, true, false, true);
        found("---a", true, false, false, true, false);
        found("ab", false, false, true, false, true);
        found("a-b", false, true, false, false, false);
        found("-a-b", true, false, false, false, false);
        found("-ab", false, false, false, true, false);
        found("-(ab)", true, true, false, true, false);
        found("a+b", false, true, true, true, true);
        found("a+bc", false, true, true, true, true);
        found("(a+b)c", false, false, false, true, true);
        found("c(a+b)", false, false, false, true, true);
        found("a-b+c-a", false, true, false, true, false);
        found("-(a+b)+h", true, false, false, false, true);
        found("((((c))))", false, false, false, true, true);
        found("(((-(c))))", true, true, true, false, false);
        found("(((a))b(((h))))(-d)", false, false, false, false, true);
        found("-".repeat(59) + "a", true, false, false, true, false);
        found("a".repeat(60), false, true, true, false, true);
        FoldedArchive none = new FoldedArchive();
        Check.feedAll(none, "-a");
        Check.due("41: no sections", () -> none.search(), 0);
        Check.index("42: no sections", () -> none.matches(0));
        FoldedArchive full = Check.strip(7);
        Check.feedAll(full, "-a");
        Check.due("41: all seven", () -> full.search(), 7);
        full.tag(6, 'a');
        Check.due("41: all but one", () -> full.search(), 6);
        Check.due("42: the last section", () -> full.matches(6), false);
        Check.due("41: is no change", () -> full.undoCount(), 8);
    }

    private static void searchFault(String text, int due) {
        FoldedArchive x = tagged();
        Check.feedAll(x, text);
        Check.argument("41: " + text, () -> x.search());
        Check.due("41: fault of " + text, () -> x.faultPosition(), due);
        FoldedArchive y = tagged();
        Check.feedAll(y, text);
        Check.argument("42: " + text, () -> y.matches(4));
        Check.due("42: fault of " + text, () -> y.faultPosition(), due);
        Check.due("42: " + text + " stays", () -> y.clearText(), text.length());
    }

    private static void searchFaults() {
        searchFault("", 0);
        searchFault("i", 0);
        searchFault("A", 0);
        searchFault(" a", 0);
        searchFault("+a", 0);
        searchFault(")", 0);
        searchFault("-", 1);
        searchFault("-+a", 1);
        searchFault("a ", 1);
        searchFault("a)", 1);
        searchFault("a+", 2);
        searchFault("a++b", 2);
        searchFault("()", 1);
        searchFault("(a", 2);
        searchFault("(a+", 3);
        searchFault("(a+)", 3);
        searchFault("(a))", 3);
        searchFault("(ai", 2);
        searchFault("((((a", 5);
        searchFault("(((((a)))))", 4);
        searchFault("(((a(((b", 5);
        searchFault("((((a)(b))(", 11);
        searchFault("((((a)))))", 9);
        searchFault("((((a)(b)))+(c)+(d)))", 20);
        searchFault("ab\0", 2);
        searchFault("-".repeat(60), 60);
        searchFault("a".repeat(59) + "+", 60);
    }

    private static FoldedArchive executed(FoldedArchive x, String text, int due) {
        Check.feedAll(x, text);
        Check.due("43: " + text, () -> x.execute(), due);
        Check.due("43: " + text + " is gone", () -> x.clearText(), 0);
        return x;
    }

    private static void executing() {
        FoldedArchive x = executed(new FoldedArchive(), "add", 1);
        Check.due("43: add", () -> x.sectionCount(), 1);
        executed(x, "add;add;pour 0 7;pour 1 42;pour 2 99;pour 1 01", 6);
        Check.due("43: one digit", () -> x.water(0), 7);
        Check.due("43: two digits", () -> x.water(1), 43);
        Check.due("43: greatest number", () -> x.water(2), 99);
        executed(x, "tag 0a;tag 0h;tag 2d;untag 0a", 4);
        Check.due("43: untag", () -> x.hasTerm(0, 'a'), false);
        Check.due("43: tag", () -> x.hasTerm(0, 'h'), true);
        executed(x, "fold 0;fold 1;fold 1;open;fold 1", 5);
        Check.due("43: fold", () -> Check.line(x, x.writePile()), "021");
        executed(x, "pipe 0>1 5;pipe 1>2 20;pipe 2>0 09;break 1;cut 0", 5);
        Check.due("43: cut", () -> x.pipeCount(), 2);
        Check.due("43: break", () -> x.isBroken(0), true);
        Check.due("43: from", () -> x.pipeFrom(1), 2);
        Check.due("43: to", () -> x.pipeTo(1), 0);
        Check.due("43: capacity", () -> x.capacity(1), 9);
        executed(x, "mend 0;pipe 0>2 3;seep;drain", 4);
        Check.due("43: mend", () -> x.isBroken(0), false);
        Check.due("43: seep", () -> x.water(1), 20);
        Check.due("43: drain", () -> x.water(0), 17);
        Check.due("43: drain to the last", () -> x.water(2), 23);
        Check.due("43: leaked", () -> x.leaked(), 89);
        Check.due("43: each text one change", () -> x.undoCount(), 6);
        FoldedArchive y = Check.strip(1);
        y.fold(0);
        executed(y, "open;fold 0;open;fold 0;open;fold 0;open;fold 0;open;fold 0", 10);
        FoldedArchive z = executed(new FoldedArchive(), "add;add;add;add;add;add;add", 7);
        Check.due("43: seven", () -> z.sectionCount(), 7);
        executed(z, "fold 0" + ";seep".repeat(10), 11);
    }

    private static void commandFault(String text, int due) {
        FoldedArchive x = Check.strip(2);
        String before = Check.dump(x);
        Check.feedAll(x, text);
        Check.argument("43: " + text, () -> x.execute());
        Check.due("43: fault of " + text, () -> x.faultPosition(), due);
        Check.due("43: " + text + " is gone", () -> x.clearText(), 0);
        Check.due("43: " + text + " does nothing", () -> Check.dump(x), before);
        Check.due("43: " + text + " is no change", () -> x.undoCount(), 2);
        Check.missing("43: " + text + " is no denial", () -> x.denial());
    }

    private static void commandFaults() {
        commandFault("", 0);
        commandFault(" add", 0);
        commandFault("Add", 0);
        commandFault("x", 0);
        commandFault("ad", 2);
        commandFault("adx", 2);
        commandFault("add ", 3);
        commandFault("add;", 4);
        commandFault("add;;add", 4);
        commandFault("add; add", 4);
        commandFault(";add", 0);
        commandFault("p", 1);
        commandFault("px", 1);
        commandFault("po", 2);
        commandFault("pox", 2);
        commandFault("pir", 2);
        commandFault("pour", 4);
        commandFault("pour  0 1", 5);
        commandFault("pour 0", 6);
        commandFault("pour 0 ", 7);
        commandFault("pour 0 x", 7);
        commandFault("pour 0 123", 9);
        commandFault("pour 0 1x", 8);
        commandFault("pour 01 1", 6);
        commandFault("pour -1 1", 5);
        commandFault("tag 0 a", 5);
        commandFault("tag 0i", 5);
        commandFault("tag aa", 4);
        commandFault("tag 0ab", 6);
        commandFault("untag 0", 7);
        commandFault("unfold", 2);
        commandFault("fold", 4);
        commandFault("fold 0;fold 10", 13);
        commandFault("open 0", 4);
        commandFault("pipe 0-1 5", 6);
        commandFault("pipe 0>1>5", 8);
        commandFault("pipe 0>1 5 ", 10);
        commandFault("cut x", 4);
        commandFault("break0", 5);
        commandFault("mend a", 5);
        commandFault("drain0", 5);
        commandFault("seep;seeq", 8);
        commandFault("add\0", 3);
        commandFault("pour 0 1\u0661", 8);
        commandFault("add;".repeat(15), 60);
    }

    private static void failing(FoldedArchive x, String text, int command, int cause) {
        String before = Check.dump(x);
        int changes = x.undoCount();
        Check.feedAll(x, text);
        Check.due("43: " + text, () -> x.execute(), "throws.UnsupportedOperationException");
        Check.due("48: " + text, () -> x.denial(), 8);
        Check.due("49: " + text, () -> x.denialDetail(), command);
        Check.due("50: " + text, () -> x.denialCause(), cause);
        Check.due("43: " + text + " does nothing", () -> Check.dump(x), before);
        Check.due("43: " + text + " is no change", () -> x.undoCount(), changes);
        Check.due("43: " + text + " is gone", () -> x.clearText(), 0);
    }

    private static void allOrNone() {
        FoldedArchive x = Check.strip(3);
        x.pour(0, 50);
        x.fold(0);
        x.layPipe(0, 1, 4);
        failing(x, "add;add;add;add;add", 4, 1);
        failing(x, "pour 1 60;pour 1 40", 1, 1);
        failing(x, "fold 1;fold 1;fold 0", 2, 2);
        failing(x, "open;open", 1, 3);
        failing(x, "add;fold 1;fold 1;fold 0", 3, 4);
        failing(x, "tag 0a;tag 0a", 1, 5);
        failing(x, "untag 0a", 0, 5);
        failing(x, "break 0;break 0", 1, 6);
        failing(x, "mend 0", 0, 6);
        failing(x, "seep;open;seep", 2, 3);
        failing(x, "add;pour 9 1", 1, 9);
        failing(x, "add;pour 0 0", 1, 9);
        failing(x, "tag 3a", 0, 9);
        failing(x, "fold 2", 0, 9);
        failing(x, "pipe 0>0 5", 0, 9);
        failing(x, "pipe 0>1 21", 0, 9);
        failing(x, "pipe 0>1 00", 0, 9);
        failing(x, "pipe 0>3 5", 0, 9);
        failing(x, "cut 0;cut 0", 1, 9);
        failing(x, "break 1", 0, 9);
        failing(x, "mend 9", 0, 9);
        FoldedArchive y = Check.strip(1);
        failing(y, "drain", 0, 7);
        executed(y, "add;drain", 2);
        FoldedArchive z = Check.strip(2);
        for (int pipe = 0; pipe < 10; pipe++) {
            z.layPipe(0, 1, 1);
        }
        failing(z, "cut 0;pipe 1>0 1;pipe 1>0 1", 2, 1);
    }

    private static void faultPosition() {
        FoldedArchive x = Check.strip(1);
        Check.missing("44: none yet", () -> x.faultPosition());
        Check.feedAll(x, "a(b");
        Check.index("42: section before grammar", () -> x.matches(1));
        Check.missing("44: kept none", () -> x.faultPosition());
        Check.argument("44: search", () -> x.search());
        Check.due("44: of the search", () -> x.faultPosition(), 3);
        Check.feedAll(x, "a");
        x.search();
        Check.due("44: is kept", () -> x.faultPosition(), 3);
        Check.feedAll(x, "a b");
        Check.argument("44: matches", () -> x.matches(0));
        Check.due("44: of matches", () -> x.faultPosition(), 1);
        Check.argument("44: execute", () -> x.execute());
        Check.due("44: of execute", () -> x.faultPosition(), 1);
        Check.argument("44: execute of nothing", () -> x.execute());
        Check.due("44: of nothing", () -> x.faultPosition(), 0);
    }

    private static void written(String told, FoldedArchive x, int section, String due) {
        Check.due("45: length, " + told, () -> x.writeSection(section), due.length());
        Check.due("45: " + told, () -> Check.line(x, due.length()), due);
        Check.index("47: end, " + told, () -> x.lineCharacter(due.length()));
    }

    private static void lines() {
        FoldedArchive x = Check.strip(3);
        Check.index("47: empty", () -> x.lineCharacter(0));
        written("plain", x, 1, "1:0");
        x.pour(2, 35);
        x.tag(2, 'h');
        x.tag(2, 'a');
        x.tag(2, 'd');
        written("not folded", x, 2, "2:35adh");
        x.fold(0);
        x.fold(1);
        x.fold(0);
        written("the example", x, 2, "2:35adh^0");
        written("moved up", x, 0, "0:0^1");
        Check.index("45: below", () -> x.writeSection(-1));
        Check.index("45: above", () -> x.writeSection(3));
        Check.due("45: a throw keeps the line", () -> Check.line(x, 5), "0:0^1");
        Check.index("47: below", () -> x.lineCharacter(-1));
        Check.due("46: length", () -> x.writePile(), 3);
        Check.due("46: bottom to top", () -> Check.line(x, 3), "201");
        Check.index("46: replaces the line", () -> x.lineCharacter(3));
        Check.due("46: empty", () -> Check.strip(2).writePile(), 0);
        FoldedArchive full = Check.strip(7);
        int[] layers = {0, 1, 2, 2, 2, 3, 4};
        for (int section = 0; section < 7; section++) {
            full.fold(layers[section]);
        }
        Check.due("46: seven", () -> Check.line(full, full.writePile()), "0145632");
        full.pour(6, 99);
        for (char term = 'h'; term >= 'a'; term--) {
            full.tag(6, term);
        }
        written("the longest", full, 6, "6:99abcdefgh^4");
        full.pour(3, 9);
        written("one digit", full, 3, "3:9^5");
        full.pour(3, 1);
        written("two digits", full, 3, "3:10^5");
    }
}
