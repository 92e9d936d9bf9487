import java.util.ArrayList;
import java.util.List;
import java.util.TreeSet;

/**
 * Promises 41 to 44 for all short texts over a few signs: the grammars are derived rule by rule, as they stand in the
 * document, and a text can go on if some tail makes it one of the language. So nothing here is read from left to
 * right, as the class reads.
 */
public final class ShortTextsTest {
    private static final String SEARCH_SIGNS = "ab+-()i";
    private static final int SEARCH_LENGTH = 6;
    private static final int OPEN = 4;
    private static final int NOT_DERIVED = -1;

    // Section s has the term a if bit 0 of s is set, and the term b if bit 1 is: all cases of both terms.
    private static final int SECTIONS = 4;
    private static final int WITH_A = 0b1010;
    private static final int WITH_B = 0b1100;
    private static final int ALL = 0b1111;

    private static final String OTHER_SIGNS = "\u0100\u0130\u0161\u0660\uff11\uffff";

    public static void main(String[] args) {
        searches("");
        commands();
        Check.end();
    }

    // ---- searches

    /** A text that can't go on is followed by one more sign, which must not move the fault. */
    private static void searches(String text) {
        int fault = faultOfSearch(text);
        oneSearch(text, fault);
        boolean goesOn = fault < 0 || fault >= text.length() - 1;
        if (text.length() < SEARCH_LENGTH && goesOn) {
            for (char sign : SEARCH_SIGNS.toCharArray()) {
                searches(text + sign);
            }
        }
    }

    private static FoldedArchive tagged(String text) {
        FoldedArchive archive = Check.strip(SECTIONS);
        for (int section = 0; section < SECTIONS; section++) {
            if ((WITH_A >> section & 1) != 0) {
                archive.tag(section, 'a');
            }
            if ((WITH_B >> section & 1) != 0) {
                archive.tag(section, 'b');
            }
        }
        Check.feedAll(archive, text);
        return archive;
    }

    private static void oneSearch(String text, int fault) {
        FoldedArchive x = tagged(text);
        int meaning = search(text, OPEN);
        String refused = "throws.IllegalArgumentException";
        Check.due("41: " + text, () -> x.search(), fault < 0 ? Integer.bitCount(meaning) : refused);
        FoldedArchive y = tagged(text);
        for (int section = 0; section < SECTIONS; section++) {
            int asked = section;
            boolean due = fault < 0 && (meaning >> section & 1) != 0;
            Check.due("42: " + text + " for " + section, () -> y.matches(asked), fault < 0 ? due : refused);
        }
        String kept = fault < 0 ? "throws.NoSuchElementException" : String.valueOf(fault);
        Check.due("44: after search of " + text, () -> x.faultPosition(), kept);
        Check.due("44: after matches of " + text, () -> y.faultPosition(), kept);
    }

    private static int faultOfSearch(String text) {
        if (search(text, OPEN) != NOT_DERIVED) {
            return -1;
        }
        int length = 0;
        while (length < text.length() && canBecomeSearch(text.substring(0, length + 1))) {
            length++;
        }
        return length;
    }

    private static boolean canBecomeSearch(String text) {
        for (int closed = 0; closed <= OPEN; closed++) {
            String end = ")".repeat(closed);
            if (search(text + end, OPEN) != NOT_DERIVED || search(text + "a" + end, OPEN) != NOT_DERIVED) {
                return true;
            }
        }
        return false;
    }

    /** search: product { "+" product }. */
    private static int search(String text, int open) {
        int whole = product(text, open);
        for (int plus = text.indexOf('+'); plus >= 0 && whole == NOT_DERIVED; plus = text.indexOf('+', plus + 1)) {
            int left = product(text.substring(0, plus), open);
            int right = left == NOT_DERIVED ? NOT_DERIVED : search(text.substring(plus + 1), open);
            whole = right == NOT_DERIVED ? NOT_DERIVED : left | right;
        }
        return whole;
    }

    /** product: factor { factor }. */
    private static int product(String text, int open) {
        int whole = factor(text, open);
        for (int cut = 1; cut < text.length() && whole == NOT_DERIVED; cut++) {
            int left = factor(text.substring(0, cut), open);
            int right = left == NOT_DERIVED ? NOT_DERIVED : product(text.substring(cut), open);
            whole = right == NOT_DERIVED ? NOT_DERIVED : left & right;
        }
        return whole;
    }

    /** factor: term | "-" factor | "(" search ")". */
    private static int factor(String text, int open) {
        if (text.equals("a")) {
            return WITH_A;
        }
        if (text.equals("b")) {
            return WITH_B;
        }
        if (text.startsWith("-")) {
            int negated = factor(text.substring(1), open);
            return negated == NOT_DERIVED ? NOT_DERIVED : ALL - negated;
        }
        if (text.startsWith("(") && text.endsWith(")") && open > 0) {
            return search(text.substring(1, text.length() - 1), open - 1);
        }
        return NOT_DERIVED;
    }

    // ---- commands

    private static final TreeSet<String> COMMANDS = allCommands();

    private static List<String> times(List<String> starts, String between, List<String> ends) {
        List<String> texts = new ArrayList<>();
        for (String start : starts) {
            for (String end : ends) {
                texts.add(start + between + end);
            }
        }
        return texts;
    }

    private static TreeSet<String> allCommands() {
        List<String> none = List.of("");
        List<String> digits = List.of("0123456789".split(""));
        List<String> terms = List.of("abcdefgh".split(""));
        List<String> numbers = times(digits, "", digits);
        numbers.addAll(digits);
        TreeSet<String> commands = new TreeSet<>(List.of("add", "open", "drain", "seep"));
        commands.addAll(times(times(none, "pour ", digits), " ", numbers));
        commands.addAll(times(times(none, "tag ", digits), "", terms));
        commands.addAll(times(times(none, "untag ", digits), "", terms));
        commands.addAll(times(none, "fold ", digits));
        commands.addAll(times(times(times(none, "pipe ", digits), ">", digits), " ", numbers));
        commands.addAll(times(none, "cut ", digits));
        commands.addAll(times(none, "break ", digits));
        commands.addAll(times(none, "mend ", digits));
        return commands;
    }

    /** Beginnings of all kinds of commands before the signs 0 to 255, alone and as the second command of a text. */
    private static void commands() {
        for (String start : someStarts()) {
            for (char sign = 0; sign < 256; sign++) {
                oneText(start + sign);
                oneText("add;" + start + sign);
            }
            for (char sign : OTHER_SIGNS.toCharArray()) {
                oneText(start + sign);
            }
            oneText(start);
            oneText("pipe 0>1 9;" + start);
        }
    }

    private static TreeSet<String> someStarts() {
        TreeSet<String> starts = new TreeSet<>();
        for (String command : COMMANDS) {
            if (command.matches("[^1-46-8]*")) {
                for (int length = 0; length <= command.length(); length++) {
                    starts.add(command.substring(0, length));
                }
            }
        }
        return starts;
    }

    private static boolean canBecomeCommand(String text) {
        String next = COMMANDS.ceiling(text);
        return next != null && next.startsWith(text);
    }

    private static boolean isText(String text, boolean whole) {
        String[] parts = text.split(";", -1);
        for (int part = 0; part < parts.length - 1; part++) {
            if (!COMMANDS.contains(parts[part])) {
                return false;
            }
        }
        String last = parts[parts.length - 1];
        return whole ? COMMANDS.contains(last) : canBecomeCommand(last);
    }

    private static void oneText(String text) {
        FoldedArchive x = new FoldedArchive();
        Check.feedAll(x, text);
        boolean refused = Check.answerOf(() -> x.execute()).equals("throws.IllegalArgumentException");
        boolean due = !isText(text, true);
        Check.due("43: refuses " + text, () -> refused, due);
        int length = 0;
        while (length < text.length() && isText(text.substring(0, length + 1), false)) {
            length++;
        }
        String kept = due ? String.valueOf(length) : "throws.NoSuchElementException";
        Check.due("44: after execute of " + text, () -> x.faultPosition(), kept);
        Check.due("43: empty after " + text, () -> x.clearText(), 0);
    }
}
