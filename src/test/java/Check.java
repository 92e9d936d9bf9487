import java.util.NoSuchElementException;

/** What the tests share: calls as objects, their answers as texts, and the count of the wrong ones. */
final class Check {
    private static int wrong = 0;
    private static int made = 0;
    private static String about = "";

    private Check() {
    }

    interface Call {
        Object answer();
    }

    /** The answer of a call, or "throws." and the exact class of the exception. */
    static String answerOf(Call call) {
        try {
            return String.valueOf(call.answer());
        } catch (RuntimeException thrown) {
            return "throws." + thrown.getClass().getSimpleName();
        }
    }

    /** What the following checks are about is printed ahead of each wrong answer. */
    static void about(String sentence) {
        about = sentence;
    }

    static int madeSoFar() {
        return made;
    }

    static void wrong(String told) {
        wrong++;
        System.out.println(told);
    }

    static void due(String told, Call call, Object want) {
        made++;
        String got = answerOf(call);
        if (!got.equals(String.valueOf(want))) {
            wrong(about + told + ": answered " + got + ", due is " + want);
        }
    }

    static void index(String told, Call call) {
        due(told, call, "throws.IndexOutOfBoundsException");
    }

    static void argument(String told, Call call) {
        due(told, call, "throws.IllegalArgumentException");
    }

    static void state(String told, Call call) {
        due(told, call, "throws.IllegalStateException");
    }

    static void missing(String told, Call call) {
        due(told, call, "throws." + NoSuchElementException.class.getSimpleName());
    }

    static void arithmetic(String told, Call call) {
        due(told, call, "throws.ArithmeticException");
    }

    /** A denied call, with the number and the detail of the denial, which has no cause. */
    static void denied(String told, FoldedArchive archive, Call call, int number, int detail) {
        due(told, call, "throws.UnsupportedOperationException");
        due(told + ", denial", () -> archive.denial(), number);
        due(told + ", detail", () -> archive.denialDetail(), detail);
        missing(told + ", cause", () -> archive.denialCause());
    }

    static void feedAll(FoldedArchive archive, String text) {
        archive.clearText();
        for (int place = 0; place < text.length(); place++) {
            archive.feed(text.charAt(place));
        }
    }

    static FoldedArchive strip(int sections) {
        FoldedArchive archive = new FoldedArchive();
        for (int section = 0; section < sections; section++) {
            archive.addSection();
        }
        return archive;
    }

    static String line(FoldedArchive archive, int length) {
        StringBuilder text = new StringBuilder();
        for (int place = 0; place < length; place++) {
            text.append(archive.lineCharacter(place));
        }
        return text.toString();
    }

    /** Everything that changes can change, as far as the face shows it. */
    static String dump(FoldedArchive archive) {
        StringBuilder text = new StringBuilder();
        for (int section = 0; section < archive.sectionCount(); section++) {
            int held = section;
            text.append(archive.water(section)).append('/');
            for (char term = 'a'; term <= 'h'; term++) {
                text.append(archive.hasTerm(section, term) ? term : '.');
            }
            text.append('/').append(answerOf(() -> archive.layerOf(held))).append(' ');
        }
        text.append("| ").append(archive.foldedCount()).append(" | ");
        for (int pipe = 0; pipe < archive.pipeCount(); pipe++) {
            text.append(archive.pipeFrom(pipe)).append('>').append(archive.pipeTo(pipe));
            text.append(':').append(archive.capacity(pipe)).append(archive.isBroken(pipe) ? "! " : " ");
        }
        return text.append("| ").append(archive.poured()).append(' ').append(archive.leaked()).toString();
    }

    static void end() {
        if (wrong != 0 || made == 0) {
            System.out.println(wrong + " of " + made + " answers are not as due");
            System.exit(1);
        }
        System.out.println("all " + made + " answers are as due");
    }
}
