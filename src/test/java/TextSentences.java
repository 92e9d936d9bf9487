/** The sentences on texts and output lines: of the terms, and promises 39 to 47. */
final class TextSentences extends Sentences {
    static void test() {
        searchGrammar();
        meanings();
        parentheses();
        theBuffer();
        commandGrammar();
        commandShapes();
        correspondences();
        faultPositions();
        feed();
        search();
        matches();
        execute();
        executeThrows();
        faultPosition();
        writeSection();
        writePile();
        lineCharacter();
    }

    private static final String[] COMMANDS = {"add", "pour 0 7", "pour 1 12", "tag 0a", "untag 0h", "fold 0", "open",
        "pipe 0>1 5", "pipe 1>0 20", "cut 0", "break 1", "mend 0", "drain", "seep"};

    /** A strip of three with the terms a, ab and none. */
    private static FoldedArchive tagged() {
        FoldedArchive archive = Check.strip(3);
        archive.tag(0, 'a');
        archive.tag(1, 'a');
        archive.tag(1, 'b');
        return archive;
    }

    private static void found(String text, boolean... due) {
        FoldedArchive x = tagged();
        int count = 0;
        for (boolean each : due) {
            count += each ? 1 : 0;
        }
        Check.due(text, () -> searched(x, text), count);
        for (int section = 0; section < due.length; section++) {
            int asked = section;
            Check.due(text + " for " + section, () -> x.matches(asked), due[section]);
        }
    }

    private static void accepted(String... texts) {
        for (String text : texts) {
            FoldedArchive x = tagged();
            Check.due("\"" + text + "\" is a search", () -> searched(x, text) instanceof Integer, true);
            Check.missing("no fault", () -> x.faultPosition());
        }
    }

    private static void searchFault(String text, int due) {
        FoldedArchive x = tagged();
        Check.argument("\"" + text + "\"", () -> searched(x, text));
        Check.due("fault of \"" + text + "\"", () -> x.faultPosition(), due);
        FoldedArchive y = tagged();
        Check.feedAll(y, text);
        Check.argument("matches \"" + text + "\"", () -> y.matches(2));
        Check.due("fault that matches finds in \"" + text + "\"", () -> y.faultPosition(), due);
    }

    private static void searchGrammar() {
        terms("A search text matches this grammar", () -> {
            accepted("a", "-(a+-b)(c)h+-(-d)");
            searchFault("", 0);
            searchFault("\"a\"", 0);
            searchFault("a b", 1);
            searchFault("a ", 1);
        });
        terms("search: product", () -> {
            accepted("a", "a+b", "a+b+c", "a" + "+a".repeat(29));
            searchFault("+", 0);
            searchFault("+a", 0);
            searchFault("a+", 2);
            searchFault("a++a", 2);
            searchFault("a" + "+a".repeat(29) + "+", 60);
        });
        terms("product: factor", () -> {
            accepted("a", "ab", "abcdefgh", "a(b)-c", "a".repeat(60), "aa+bb");
            searchFault("a*b", 1);
            searchFault("a".repeat(59) + "*", 59);
        });
        terms("factor: term", () -> {
            accepted("-a", "--a", "(a)", "-(a)", "(-a)", "((a))", "-".repeat(59) + "a", "(a)(b)", "(a+b)");
            searchFault("-", 1);
            searchFault("a-", 2);
            searchFault("-+a", 1);
            searchFault("()", 1);
            searchFault("(", 1);
            searchFault("(a", 2);
            searchFault("(a+)", 3);
            searchFault("(-)", 2);
            searchFault(")", 0);
            searchFault("a)", 1);
            searchFault("(a))", 3);
            searchFault("-".repeat(60), 60);
        });
        terms("term: \"a\"", () -> {
            accepted("a", "b", "c", "d", "e", "f", "g", "h");
            for (char wrong : new char[] {'`', 'i', 'z', 'A', 'H', '0', 0, 'a' + 256, 65535}) {
                searchFault(String.valueOf(wrong), 0);
            }
        });
    }

    private static void meanings() {
        terms("A term stands for the sections that have it", () -> {
            found("a", true, true, false);
            found("b", false, true, false);
            found("c", false, false, false);
            found("ab", false, true, false);
            found("aa", true, true, false);
            found("a+b", true, true, false);
            found("c+b", false, true, false);
            found("-a", false, false, true);
            found("-c", true, true, true);
            found("--b", false, true, false);
            found("a-b", true, false, false);
            found("-ab", false, false, false);
            found("-(ab)", true, false, true);
            found("-a+b", false, true, true);
            found("-(a+b)", false, false, true);
            found("a-b+-a", true, false, true);
            found("b+ab", false, true, false);
            found("(b+a)b", false, true, false);
            found("a(b+c)", false, true, false);
            found("-a-b", false, false, true);
        });
    }

    private static void parentheses() {
        terms("At most 4 parentheses may be open", () -> {
            found("((((a))))", true, true, false);
            found("((((a)(b)))(c+a))", false, true, false);
            found("-(-(-(-(b))))", false, true, false);
            found("(a)(a)(a)(a)(a)(b)", false, true, false);
            found("((((a))))((((b))))", false, true, false);
            searchFault("(((((a)))))", 4);
            searchFault("((((a+(b)))))", 6);
            searchFault("((((a))))(((((b)))))", 13);
        });
        terms("a parenthesis that would be the fifth open one", () -> {
            searchFault("(((((", 4);
            searchFault("-(-(-(-(-(", 9);
            searchFault("((((a)(b))(", 11);
            searchFault("((((a)((b", 7);
            searchFault("((((", 4);
            searchFault("((((a)))(c)+(d(", 15);
        });
    }

    private static void theBuffer() {
        terms("The text buffer holds at most 60 characters", () -> {
            FoldedArchive x = tagged();
            Check.feedAll(x, "a".repeat(59));
            Check.due("the sixtieth", () -> x.feed('b'), 60);
            Check.state("one more", () -> x.feed('c'));
            Check.due("the last one counts", () -> x.search(), 1);
            Check.due("sixty", () -> x.clearText(), 60);
            FoldedArchive y = new FoldedArchive();
            String sixty = "add;add;pour 0 10;pour 1 10;pour 0 10;pour 1 10;pour 0 1;add";
            Check.due("commands of sixty", () -> executed(y, sixty), 8);
            Check.due("the last one counts", () -> y.sectionCount(), 3);
        });
        terms("it is used for commands and for searches", () -> {
            FoldedArchive x = tagged();
            Check.feedAll(x, "ad");
            Check.due("a search", () -> x.search(), 0);
            x.feed('d');
            Check.due("a search still", () -> x.search(), 0);
            Check.due("and a command", () -> x.execute(), 1);
            Check.due("it was one", () -> x.sectionCount(), 4);
            Check.argument("no search any more", () -> x.search());
        });
    }

    private static Object executedOn(String text) {
        FoldedArchive x = Check.strip(2);
        x.fold(0);
        x.layPipe(0, 1, 5);
        x.layPipe(0, 1, 5);
        return executed(x, text);
    }

    private static void commandFault(String text, int due) {
        FoldedArchive x = Check.strip(2);
        Check.argument("\"" + text + "\"", () -> executed(x, text));
        Check.due("fault of \"" + text + "\"", () -> x.faultPosition(), due);
    }

    private static void commandGrammar() {
        terms("A text of commands matches this grammar", () -> {
            Check.due("one", () -> executedOn("add"), 1);
            Check.due("two", () -> executedOn("add;add"), 2);
            commandFault("", 0);
            commandFault("\"add\"", 0);
            commandFault("ADD", 0);
            commandFault("addSection", 3);
        });
        terms("a space in a terminal is exactly one space", () -> {
            Check.due("one space", () -> executedOn("pour 0 7"), 1);
            commandFault("pour0 7", 4);
            commandFault("pour  0 7", 5);
            commandFault("pour 07", 6);
            commandFault("pour 0  7", 7);
            commandFault("pour\t0 7", 4);
            commandFault("tag0a", 3);
            commandFault("tag  0a", 4);
            commandFault("tag 0 a", 5);
            commandFault("untag  0a", 6);
            commandFault("fold0", 4);
            commandFault("fold  0", 5);
            commandFault("pipe 0 >1 5", 6);
            commandFault("pipe 0> 1 5", 7);
            commandFault("pipe 0>1  5", 9);
            commandFault("cut  0", 4);
            commandFault("break  0", 6);
            commandFault("mend  0", 5);
            commandFault(" add", 0);
            commandFault("add ", 3);
            commandFault("add ;add", 3);
            commandFault("add; add", 4);
        });
        terms("text: command", () -> {
            Check.due("one", () -> executedOn("seep"), 1);
            Check.due("twelve", () -> executedOn("seep" + ";seep".repeat(11)), 12);
            commandFault(";", 0);
            commandFault(";add", 0);
            commandFault("add;", 4);
            commandFault("add;;add", 4);
            commandFault("add,add", 3);
            commandFault("addadd", 3);
            commandFault("add;".repeat(15), 60);
        });
        terms("number: one or two digits", () -> {
            FoldedArchive x = Check.strip(7);
            String[] numbers = {"1", "9", "01", "09", "10", "99"};
            int[] due = {1, 9, 1, 9, 10, 99};
            for (int section = 0; section < due.length; section++) {
                int poured = section;
                Check.due("number " + numbers[section], () -> executed(x, "pour " + poured + " " + numbers[poured]), 1);
                Check.due("water of " + numbers[section], () -> x.water(poured), due[section]);
            }
            Check.due("numbers before other commands", () -> executedOn("pour 0 1;pour 0 12;add"), 3);
            commandFault("pour 0 ", 7);
            commandFault("pour 0 ;", 7);
            commandFault("pour 0 100", 9);
            commandFault("pour 0 001", 9);
            commandFault("pour 0 -1", 7);
            commandFault("pour 0 1x", 8);
            commandFault("pipe 0>1 ", 9);
            commandFault("pipe 0>1 020", 11);
            commandFault("pour 0 :", 7);
            commandFault("pour 0 /", 7);
            commandFault("pour 0 1:", 8);
            commandFault("pour 0 \u0661", 7);
        });
    }

    /** Whether a shorter command, or a shorter number, ends there. */
    private static boolean isComplete(String text) {
        for (String command : COMMANDS) {
            if (text.equals(command)) {
                return true;
            }
        }
        return text.equals("pour 1 1") || text.equals("pipe 1>0 2");
    }

    private static void spoiltAtEachPlace(String command) {
        for (int length = 0; length < command.length(); length++) {
            String start = command.substring(0, length);
            if (!isComplete(start)) {
                commandFault(start, length);
                commandFault("add;" + start, length + 4);
                commandFault(start + ";", length);
            }
            commandFault(start + "#" + command.substring(length), length);
            commandFault(start + "\0", length);
        }
        commandFault(command + "#", command.length());
        commandFault(command + ";", command.length() + 1);
    }

    private static void commandShapes() {
        terms("command: \"add\"", () -> {
            for (String command : COMMANDS) {
                Check.due(command, () -> executedOn("tag 0h;break 0;" + command), 3);
                spoiltAtEachPlace(command);
            }
            for (String digits : new String[] {"pour /", "pour :", "tag /", "tag :", "untag :", "fold :", "cut :",
                "break :", "mend :", "pipe :", "pipe /", "pipe 0>:", "tag 0`", "tag 0i", "untag 0i", "fold -"}) {
                commandFault(digits, digits.length() - 1);
            }
            for (String more : new String[] {"fold 10", "cut 00", "break 12", "mend 01", "tag 0ab", "untag 0ab"}) {
                commandFault(more, more.length() - 1);
            }
            for (char digit = '0'; digit <= '9'; digit++) {
                char last = digit;
                Check.missing("digit " + digit, () -> {
                    FoldedArchive x = Check.strip(2);
                    Check.answerOf(() -> executed(x, "cut " + last));
                    return x.faultPosition();
                });
            }
        });
    }

    private static void correspondences() {
        terms("The commands correspond to the methods", () -> {
            corresponds("add", x -> x.addSection());
            corresponds("pour 1 23", x -> x.pour(1, 23));
            corresponds("tag 2h", x -> x.tag(2, 'h'));
            corresponds("untag 1a", x -> x.untag(1, 'a'));
            corresponds("fold 1", x -> x.fold(1));
            corresponds("open", x -> x.unfold());
            corresponds("pipe 2>1 13", x -> x.layPipe(2, 1, 13));
            corresponds("cut 1", x -> x.removePipe(1));
            corresponds("break 0", x -> x.breakPipe(0));
            corresponds("mend 1", x -> x.mendPipe(1));
            corresponds("drain", x -> x.drain());
            corresponds("seep", x -> x.seep());
        });
    }

    private interface Change {
        void on(FoldedArchive archive);
    }

    private static void corresponds(String command, Change change) {
        FoldedArchive x = busy();
        FoldedArchive y = busy();
        Check.due(command, () -> executed(x, command), 1);
        change.on(y);
        Check.due(command + " does the same", () -> Check.dump(x), Check.dump(y));
        Check.due(command + " does something", () -> Check.dump(x).equals(Check.dump(busy())), false);
    }

    private static FoldedArchive busy() {
        FoldedArchive archive = Check.strip(4);
        archive.pour(0, 60);
        archive.pour(1, 70);
        archive.tag(1, 'a');
        archive.fold(0);
        archive.fold(1);
        archive.layPipe(0, 3, 7);
        archive.layPipe(0, 3, 8);
        archive.breakPipe(1);
        return archive;
    }

    private static void faultPositions() {
        terms("The fault position of a text", () -> {
            commandFault("x", 0);
            commandFault("px", 1);
            commandFault("pox", 2);
            commandFault("pix", 2);
            commandFault("pip", 3);
            commandFault("", 0);
            commandFault("pour 0 1;tag 0a;fold x", 21);
            commandFault("pour 0 1;tag 0a;fold ", 21);
            commandFault("add;".repeat(14) + "ope#", 59);
            commandFault("add;".repeat(14) + "fold", 60);
            searchFault("", 0);
            searchFault("#", 0);
            searchFault("a#", 1);
            searchFault("a+", 2);
            searchFault("(a+b", 4);
            searchFault("(a+b#)", 4);
            searchFault("a+b)c", 3);
            searchFault("a".repeat(59) + "#", 59);
            searchFault("(" + "a".repeat(59), 60);
        });
    }

    private static void feed() {
        promise(39, "Appends a character", () -> {
            FoldedArchive x = tagged();
            x.feed('-');
            x.feed('b');
            x.feed('a');
            Check.due("in the order", () -> x.search(), 1);
            x.feed('+');
            Check.argument("at the end", () -> x.search());
            x.feed('b');
            Check.due("behind the rest", () -> x.search(), 2);
        });
        promise(39, "- `character`", () -> {
            FoldedArchive x = new FoldedArchive();
            char[] signs = {0, 1, '\n', ' ', 'a', 127, 128, 255, 256, 0xD800, 0xDFFF, 0xFFFE, 0xFFFF};
            for (int fed = 0; fed < signs.length; fed++) {
                char sign = signs[fed];
                Check.due("character " + (int) sign, () -> x.feed(sign), fed + 1);
            }
        });
        promise(39, "Returns the length of the buffer afterwards", () -> {
            FoldedArchive x = new FoldedArchive();
            for (int length = 1; length <= 60; length++) {
                Check.due("length", () -> x.feed('a'), length);
            }
            x.clearText();
            Check.due("after emptying", () -> x.feed('a'), 1);
        });
        promise(39, "Throws `IllegalStateException`", () -> {
            FoldedArchive x = tagged();
            Check.feedAll(x, "a".repeat(60));
            Check.state("another", () -> x.feed('b'));
            Check.state("once more", () -> x.feed('+'));
            Check.due("the text stays", () -> x.search(), 2);
            Check.due("with sixty", () -> x.clearText(), 60);
            Check.due("room again", () -> x.feed('b'), 1);
        });
        promise(40, "Empties the text buffer", () -> {
            FoldedArchive x = tagged();
            Check.feedAll(x, "a".repeat(60));
            x.clearText();
            Check.argument("nothing to search for", () -> x.search());
            Check.due("as it is empty", () -> x.faultPosition(), 0);
            x.feed('b');
            Check.due("nothing old is left", () -> x.search(), 1);
        });
        promise(40, "Returns the length of the buffer before", () -> {
            FoldedArchive x = new FoldedArchive();
            Check.due("new", () -> x.clearText(), 0);
            x.feed('a');
            Check.due("one", () -> x.clearText(), 1);
            Check.due("emptied", () -> x.clearText(), 0);
            for (int fed = 0; fed < 60; fed++) {
                x.feed('a');
            }
            Check.due("full", () -> x.clearText(), 60);
        });
    }

    private static void search() {
        promise(41, "Searches for the text buffer, which stays as it is", () -> {
            FoldedArchive x = tagged();
            Check.feedAll(x, "a-b");
            Check.due("once", () -> x.search(), 1);
            Check.due("twice", () -> x.search(), 1);
            x.tag(2, 'a');
            Check.due("with the terms of now", () -> x.search(), 2);
            Check.due("stays", () -> x.clearText(), 3);
            Check.feedAll(x, "a-");
            Check.argument("no search", () -> x.search());
            Check.due("stays even then", () -> x.clearText(), 2);
        });
        promise(41, "Returns the number of sections that the search", () -> {
            Check.due("no sections", () -> searched(new FoldedArchive(), "-a"), 0);
            Check.due("none of seven", () -> searched(Check.strip(7), "a"), 0);
            Check.due("all of seven", () -> searched(Check.strip(7), "-a"), 7);
            Check.due("all of one", () -> searched(Check.strip(1), "a+-a"), 1);
            Check.due("six of seven", () -> searched(marked(), "a"), 6);
            Check.due("one of seven", () -> searched(marked(), "f"), 1);
        });
        promise(41, "Throws `IllegalArgumentException`", () -> {
            FoldedArchive x = tagged();
            for (String text : new String[] {"", "i", "a+", "(a", "a)", "()", "add", "(((((a)))))", "ab ", "+", "-"}) {
                String due = text.equals("add") ? "0" : "throws.IllegalArgumentException";
                Check.due("\"" + text + "\"", () -> searched(x, text), due);
            }
            Check.missing("is no denial", () -> x.denial());
        });
        promise(41, "the fault position is kept", () -> {
            FoldedArchive x = tagged();
            Check.argument("a fault", () -> searched(x, "ab+"));
            Check.due("its position", () -> x.faultPosition(), 3);
            Check.due("no fault", () -> searched(x, "ab"), 1);
            Check.due("keeps it", () -> x.faultPosition(), 3);
            Check.argument("another fault", () -> searched(x, ""));
            Check.due("its position", () -> x.faultPosition(), 0);
        });
    }

    private static void matches() {
        promise(42, "Returns whether the search", () -> {
            FoldedArchive x = marked();
            Check.feedAll(x, "b-e");
            for (int section = 0; section < 7; section++) {
                int asked = section;
                Check.due("section " + section, () -> x.matches(asked), asked >= 2 && asked < 5);
            }
        });
        promise(42, "The buffer stays as it is", () -> {
            FoldedArchive x = tagged();
            Check.feedAll(x, "ab");
            Check.due("once", () -> x.matches(1), true);
            Check.due("twice", () -> x.matches(1), true);
            Check.due("stays", () -> x.clearText(), 2);
            Check.feedAll(x, "ab+");
            Check.argument("no search", () -> x.matches(1));
            Check.index("no section", () -> x.matches(3));
            Check.due("stays even then", () -> x.clearText(), 3);
        });
        promise(42, "- `section`", () -> {
            FoldedArchive x = marked();
            Check.feedAll(x, "f");
            Check.due("the last", () -> x.matches(6), true);
            Check.due("not the first", () -> x.matches(0), false);
            Check.feedAll(x, "-a");
            Check.due("the first", () -> x.matches(0), true);
            Check.due("not the last", () -> x.matches(6), false);
        });
        promise(42, "Returns whether it does", () -> {
            FoldedArchive x = Check.strip(1);
            Check.feedAll(x, "h");
            Check.due("not yet", () -> x.matches(0), false);
            x.tag(0, 'h');
            Check.due("now", () -> x.matches(0), true);
        });
        promise(42, "Throws `IndexOutOfBoundsException`", () -> {
            for (int sections : new int[] {0, 1, 3, 7}) {
                FoldedArchive x = Check.strip(sections);
                Check.feedAll(x, "-a");
                for (int section : outside(sections)) {
                    Check.index(section + " of " + sections, () -> x.matches(section));
                }
            }
        });
        promise(42, "Throws `IllegalArgumentException`", () -> {
            FoldedArchive x = tagged();
            for (String text : new String[] {"", "i", "a+", "(a", "a)", "()", "(((((a)))))", "ab ", "+", "-"}) {
                Check.feedAll(x, text);
                Check.argument("\"" + text + "\"", () -> x.matches(0));
            }
        });
        promise(42, "the fault position is kept", () -> {
            FoldedArchive x = tagged();
            Check.feedAll(x, "a#");
            Check.argument("a fault", () -> x.matches(0));
            Check.due("its position", () -> x.faultPosition(), 1);
            Check.feedAll(x, "aa#");
            Check.index("no section", () -> x.matches(3));
            Check.due("keeps it", () -> x.faultPosition(), 1);
            Check.argument("another fault", () -> x.matches(2));
            Check.due("its position", () -> x.faultPosition(), 2);
        });
    }

    private static void execute() {
        promise(43, "Parses the text buffer as a text of commands", () -> {
            String ready = "pour 0 5;fold 0;seep;add;pour 1 9;pipe 1>0 3";
            FoldedArchive x = Check.strip(1);
            Check.due("in their order", () -> executed(x, ready), 6);
            String after = "5/......../0 9/......../throws.NoSuchElementException | 1 | 1>0:3 | 14 0";
            Check.due("all", () -> Check.dump(x), after);
            String[] failing = {"pour 0 1;pour 0 99", "tag 0a;untag 0b", "fold 0;fold 0", "open;open", "cut 0;cut 0",
                "break 0;break 0", "seep;drain;mend 0", "add;add;add;add;add;add", "pipe 0>1 2;pipe 0>0 2"};
            for (String text : failing) {
                FoldedArchive y = Check.strip(1);
                executed(y, ready);
                Check.due(text, () -> executed(y, text), "throws.UnsupportedOperationException");
                Check.due("none of " + text, () -> Check.dump(y), after);
            }
            Check.argument("a fault behind", () -> executed(x, "pour 0 1;add;x"));
            Check.due("none of them", () -> Check.dump(x), after);
        });
        promise(43, "The buffer is empty afterwards", () -> {
            FoldedArchive x = Check.strip(6);
            Check.due("all executed", () -> executed(x, "add"), 1);
            Check.due("empty", () -> x.clearText(), 0);
            Check.due("denied", () -> executed(x, "add"), "throws.UnsupportedOperationException");
            Check.due("empty even so", () -> x.clearText(), 0);
            Check.argument("no commands", () -> executed(x, "a".repeat(60)));
            Check.due("empty even so", () -> x.clearText(), 0);
            Check.argument("nothing", () -> x.execute());
            Check.due("empty as it was", () -> x.clearText(), 0);
        });
        promise(43, "Returns the number of commands", () -> {
            Check.due("one", () -> executed(new FoldedArchive(), "add"), 1);
            Check.due("seven", () -> executed(new FoldedArchive(), "add;add;add;add;add;add;add"), 7);
            String most = "add;add;add;add;add;add;add;fold 0" + ";seep".repeat(5);
            Check.due("as many as have room", () -> executed(new FoldedArchive(), most), 13);
        });
    }

    private static void executeThrows() {
        promise(43, "Throws `IllegalArgumentException`", () -> {
            FoldedArchive x = Check.strip(1);
            String[] wrong = {"", "a", "ad", "add;", "ad;add", "add add", "unfold", "a+b", "pour 0 123"};
            for (String text : wrong) {
                Check.argument("\"" + text + "\"", () -> executed(x, text));
            }
            Check.missing("is no denial", () -> x.denial());
            Check.due("is no change", () -> x.undoCount(), 1);
        });
        promise(43, "the fault position is kept", () -> {
            FoldedArchive x = Check.strip(1);
            Check.argument("a fault", () -> executed(x, "adx"));
            Check.due("its position", () -> x.faultPosition(), 2);
            Check.due("no fault", () -> executed(x, "add"), 1);
            Check.due("keeps it", () -> x.faultPosition(), 2);
            Check.due("a denial", () -> executed(x, "add;open"), "throws.UnsupportedOperationException");
            Check.due("keeps it", () -> x.faultPosition(), 2);
            Check.argument("another fault", () -> executed(x, "add;fold"));
            Check.due("its position", () -> x.faultPosition(), 8);
        });
        promise(43, "Throws `UnsupportedOperationException`", () -> {
            FoldedArchive x = Check.strip(6);
            Check.due("the second fails", () -> executed(x, "add;add"), "throws.UnsupportedOperationException");
            Check.due("denial 8", () -> x.denial(), 8);
            Check.due("of the second", () -> x.denialDetail(), 1);
            Check.due("the first fails", () -> executed(x, "pour 6 1;add"), "throws.UnsupportedOperationException");
            Check.due("denial 8", () -> x.denial(), 8);
            Check.due("of the first", () -> x.denialDetail(), 0);
            Check.due("no section was added", () -> x.sectionCount(), 6);
        });
    }

    private static void faultPosition() {
        promise(44, "Returns the fault position that was kept last", () -> {
            FoldedArchive x = tagged();
            Check.argument("search", () -> searched(x, "a#"));
            Check.due("of search", () -> x.faultPosition(), 1);
            Check.feedAll(x, "aa#");
            Check.argument("matches", () -> x.matches(0));
            Check.due("of matches", () -> x.faultPosition(), 2);
            Check.argument("execute", () -> executed(x, "add#"));
            Check.due("of execute", () -> x.faultPosition(), 3);
            Check.due("asked again", () -> x.faultPosition(), 3);
        });
        promise(44, "Returns the fault position.", () -> {
            FoldedArchive x = tagged();
            Check.argument("nothing", () -> x.search());
            Check.due("the lowest", () -> x.faultPosition(), 0);
            Check.argument("sixty that end too early", () -> searched(x, "-".repeat(60)));
            Check.due("the highest", () -> x.faultPosition(), 60);
        });
        promise(44, "Throws `NoSuchElementException`", () -> {
            FoldedArchive x = tagged();
            Check.missing("new", () -> x.faultPosition());
            searched(x, "a");
            executed(x, "add");
            Check.answerOf(() -> executed(x, "cut 0"));
            Check.index("matches", () -> x.matches(9));
            Check.missing("no fault yet", () -> x.faultPosition());
            Check.argument("a fault", () -> x.execute());
            Check.due("a fault", () -> x.faultPosition(), 0);
        });
    }

    private static void written(FoldedArchive x, int section, String due) {
        Check.due("length", () -> x.writeSection(section), due.length());
        Check.due("line", () -> Check.line(x, due.length()), due);
        Check.index("end", () -> x.lineCharacter(due.length()));
    }

    private static void writeSection() {
        promise(45, "Writes a section as the output line", () -> {
            FoldedArchive x = Check.strip(3);
            written(x, 0, "0:0");
            x.pour(1, 10);
            x.tag(1, 'h');
            x.tag(1, 'a');
            written(x, 1, "1:10ah");
            x.fold(0);
            x.fold(1);
            written(x, 1, "1:10ah^1");
            written(x, 0, "0:0^0");
            written(x, 2, "2:0");
            x.pour(2, 9);
            written(x, 2, "2:9");
        });
        promise(45, "Example", () -> {
            FoldedArchive x = Check.strip(3);
            x.pour(2, 35);
            x.tag(2, 'h');
            x.tag(2, 'd');
            x.tag(2, 'a');
            x.fold(0);
            x.fold(1);
            x.fold(0);
            written(x, 2, "2:35adh^0");
        });
        promise(45, "- `section`", () -> {
            FoldedArchive x = marked();
            written(x, 0, "0:1");
            written(x, 6, "6:61abcdef");
        });
        promise(45, "Returns the length of the line", () -> {
            FoldedArchive x = Check.strip(7);
            Check.due("shortest", () -> x.writeSection(6), 3);
            for (int section = 0; section < 7; section++) {
                x.fold(section);
            }
            x.pour(6, 99);
            for (char term = 'a'; term <= 'h'; term++) {
                x.tag(6, term);
            }
            written(x, 6, "6:99abcdefgh^6");
        });
        noSuchSection(45, (x, section) -> x.writeSection(section));
    }

    private static void writePile() {
        promise(46, "Writes the pile as the output line", () -> {
            FoldedArchive x = Piles.made(7, "0145632");
            x.writeSection(0);
            x.writePile();
            Check.due("from the bottom to the top", () -> Check.line(x, 7), "0145632");
            Check.index("nothing else", () -> x.lineCharacter(7));
            x.unfold();
            Check.due("without the unfolded one", () -> pile(x), "014532");
            Check.index("nothing else", () -> x.lineCharacter(6));
        });
        promise(46, "Returns the length of the line", () -> {
            FoldedArchive x = Check.strip(7);
            x.writeSection(0);
            for (int count = 0; count < 7; count++) {
                int due = count;
                Check.due("from none", () -> x.writePile(), due);
                Check.index("end", () -> x.lineCharacter(due));
                x.fold(0);
            }
            Check.due("to all", () -> x.writePile(), 7);
            Check.due("no sections", () -> new FoldedArchive().writePile(), 0);
        });
    }

    private static void lineCharacter() {
        promise(47, "Returns a character of the output line", () -> {
            FoldedArchive x = Check.strip(1);
            Check.index("initially empty", () -> x.lineCharacter(0));
            x.writeSection(0);
            Check.due("written", () -> x.lineCharacter(1), ':');
            x.pour(0, 5);
            Check.due("stays as it was written", () -> x.lineCharacter(2), '0');
        });
        promise(47, "- `index`", () -> {
            FoldedArchive x = Check.strip(2);
            x.pour(1, 42);
            x.writeSection(1);
            Check.due("the first", () -> x.lineCharacter(0), '1');
            Check.due("the last", () -> x.lineCharacter(3), '2');
        });
        promise(47, "Returns the character", () -> {
            FoldedArchive x = Piles.made(3, "120");
            x.writePile();
            Check.due("first", () -> x.lineCharacter(0), '1');
            Check.due("middle", () -> x.lineCharacter(1), '2');
            Check.due("last", () -> x.lineCharacter(2), '0');
        });
        promise(47, "Throws `IndexOutOfBoundsException`", () -> {
            FoldedArchive x = Check.strip(7);
            int[] lengths = {0, 3, 14};
            for (int length : lengths) {
                if (length == 3) {
                    x.writeSection(6);
                }
                if (length == 14) {
                    executed(x, "pour 6 99;tag 6a;tag 6b;tag 6c;tag 6d;tag 6e;tag 6f");
                    executed(x, "tag 6g;tag 6h;fold 0;fold 1;fold 2;fold 3;fold 4;fold 5");
                    x.fold(6);
                    x.writeSection(6);
                }
                for (int index : outside(length)) {
                    Check.index(index + " of " + length, () -> x.lineCharacter(index));
                }
            }
            x.writeSection(0);
            Check.index("where a longer line was", () -> x.lineCharacter(6));
        });
    }
}
