import java.io.IOException;
import java.nio.file.Files;
import java.nio.file.Path;
import java.util.ArrayList;
import java.util.List;

/**
 * The sentences of the document, and the tests that stand for them: one for each clause between full stops and
 * semicolons. A test names its clause by the beginning of it, so that the document itself tells which has none.
 */
abstract class Sentences {
    private static final Path DOCUMENT = Path.of("..", "shared", "DOC.md");

    // What the class is for, and what is free, rule out no answer at all.
    private static final List<String> NO_TEST = List.of("An archive of a river map", "what later calls answer is free");

    /** A clause with the heading and the sentence that it stands in. */
    private static final class Clause {
        final String heading;
        final String sentence;
        final String text;
        boolean tested;

        Clause(String heading, String sentence, String text) {
            this.heading = heading;
            this.sentence = sentence;
            this.text = text;
        }
    }

    private static final List<Clause> CLAUSES = read();

    interface Body {
        void run();
    }

    /** A call for the section, the layer or the pipe of a number. */
    interface At {
        Object answer(FoldedArchive archive, int number);
    }

    /** A call for a term. */
    interface With {
        Object answer(FoldedArchive archive, char term);
    }

    private static List<Clause> read() {
        List<Clause> clauses = new ArrayList<>();
        String heading = "";
        boolean inBlock = false;
        try {
            for (String line : Files.readAllLines(DOCUMENT)) {
                if (line.startsWith("## ")) {
                    heading = line.substring(3).split(":")[0];
                } else if (line.startsWith("```")) {
                    inBlock = !inBlock;
                } else if (isText(heading, line)) {
                    add(clauses, heading, line.strip(), inBlock);
                }
            }
        } catch (IOException thrown) {
            Check.wrong("the document can't be read: " + thrown);
        }
        return clauses;
    }

    private static boolean isText(String heading, String line) {
        boolean promises = heading.equals("What it is") || heading.equals("Terms") || heading.startsWith("Promise ");
        return promises && !line.isBlank() && !line.startsWith("Ahead of the calls");
    }

    private static void add(List<Clause> clauses, String heading, String line, boolean isRule) {
        String text = line.replaceFirst("^`[^`]*`: ", "");
        String[] sentences = isRule ? new String[] {text} : text.split("(?<=\\.) (?=[A-Z\"])");
        for (String sentence : sentences) {
            // A rule of a grammar stays whole, and a single word before a full stop is a heading.
            String[] parts = isRule ? new String[] {sentence} : sentence.split("(?<=;) ");
            for (String part : parts) {
                boolean twice = !heading.equals("Terms") && find(clauses, heading, "", part).size() > 0;
                if (!part.matches("\\w+\\.") && !twice) {
                    clauses.add(new Clause(heading, sentence, part));
                }
            }
        }
    }

    private static List<Clause> find(List<Clause> clauses, String heading, String sentence, String clause) {
        List<Clause> found = new ArrayList<>();
        for (Clause each : clauses) {
            boolean fits = each.sentence.startsWith(sentence) && each.text.startsWith(clause);
            if (each.heading.equals(heading) && fits) {
                found.add(each);
            }
        }
        return found;
    }

    static void terms(String clause, Body body) {
        test("Terms", "", clause, body);
    }

    static void terms(String sentence, String clause, Body body) {
        test("Terms", sentence, clause, body);
    }

    static void promise(int number, String clause, Body body) {
        test("Promise " + number, "", clause, body);
    }

    static void test(String heading, String sentence, String clause, Body body) {
        List<Clause> found = find(CLAUSES, heading, sentence, clause);
        if (found.size() != 1 || found.get(0).tested) {
            Check.wrong("tests one untested clause, but there are " + found.size() + ": " + heading + ", " + clause);
            return;
        }
        found.get(0).tested = true;
        String told = heading + ", \"" + (sentence.isEmpty() ? "" : sentence + " .. ") + clause + "\": ";
        Check.about(told);
        int made = Check.madeSoFar();
        try {
            body.run();
        } catch (RuntimeException thrown) {
            Check.wrong(told + "the test ends with " + thrown);
        }
        if (Check.madeSoFar() == made) {
            Check.wrong(told + "the test looks at nothing");
        }
        Check.about("");
    }

    /** Each clause must have been tested by now, but for those that ask for nothing. */
    static void allTested() {
        for (Clause clause : CLAUSES) {
            boolean needsNone = NO_TEST.stream().anyMatch(clause.text::startsWith);
            if (!clause.tested && !needsNone) {
                Check.wrong("no test for " + clause.heading + ", \"" + clause.text + "\"");
            }
        }
        Check.due("clauses of the document", () -> CLAUSES.size() > 250, true);
    }

    /** Numbers that nothing has if there are so many, numbered from 0. */
    static int[] outside(int count) {
        return new int[] {-1, count, count + 1, count + 7, Integer.MIN_VALUE, Integer.MAX_VALUE};
    }

    /** A strip of seven whose sections have 1, 11, 21, .. units; section s has the first s terms. */
    static FoldedArchive marked() {
        FoldedArchive archive = Check.strip(7);
        for (int section = 0; section < 7; section++) {
            archive.pour(section, 10 * section + 1);
            for (int term = 0; term < section; term++) {
                archive.tag(section, (char) ('a' + term));
            }
        }
        return archive;
    }

    static FoldedArchive folded(int sections, int... layers) {
        FoldedArchive archive = Check.strip(sections);
        for (int layer : layers) {
            archive.fold(layer);
        }
        return archive;
    }

    /** A strip with pipes from section 0 to section 1, of the capacities. */
    static FoldedArchive piped(int sections, int... capacities) {
        FoldedArchive archive = Check.strip(sections);
        for (int capacity : capacities) {
            archive.layPipe(0, 1, capacity);
        }
        return archive;
    }

    static String pile(FoldedArchive archive) {
        return Check.line(archive, archive.writePile());
    }

    static Object executed(FoldedArchive archive, String text) {
        Check.feedAll(archive, text);
        return archive.execute();
    }

    static Object searched(FoldedArchive archive, String text) {
        Check.feedAll(archive, text);
        return archive.search();
    }

    /** The call throws for each section that there is not, on a strip of none, of some and of all. */
    static void noSuchSection(int promise, At call) {
        promise(promise, "Throws `IndexOutOfBoundsException`", () -> {
            for (int sections : new int[] {0, 1, 3, 7}) {
                FoldedArchive x = Check.strip(sections);
                for (int section : outside(sections)) {
                    Check.index(section + " of " + sections, () -> call.answer(x, section));
                }
            }
        });
    }

    static void noSuchPipe(int promise, At call) {
        promise(promise, "Throws `IndexOutOfBoundsException`", () -> {
            for (int pipes : new int[] {0, 1, 3, 10}) {
                FoldedArchive x = Check.strip(2);
                for (int pipe = 0; pipe < pipes; pipe++) {
                    x.layPipe(0, 1, pipe + 1);
                }
                for (int pipe : outside(pipes)) {
                    Check.index(pipe + " of " + pipes, () -> call.answer(x, pipe));
                }
            }
        });
    }

    static void noSuchTerm(int promise, With call) {
        promise(promise, "Throws `IllegalArgumentException`", () -> {
            FoldedArchive x = Check.strip(1);
            char[] wrong = {'`', 'i', 'A', 'H', '0', ' ', 0, 'a' + 256, 'h' + 32768, 65535};
            for (char term : wrong) {
                Check.argument("term " + (int) term, () -> call.answer(x, term));
            }
        });
    }
}
