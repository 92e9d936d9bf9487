import java.util.Random;

/** Long runs of calls with fixed seeds, on the class and on NaiveArchive, whose answers must be the same. */
public final class RandomRunsTest {
    private static final int RUNS = 300;
    private static final int CALLS = 512;
    private static final int KINDS = 54;

    private final Random random;
    private final FoldedArchive x = new FoldedArchive();
    private final NaiveArchive y = new NaiveArchive();
    private final int run;
    private int calls = 0;

    private RandomRunsTest(int run) {
        this.run = run;
        random = new Random(run);
    }

    public static void main(String[] args) {
        for (int run = 0; run < RUNS; run++) {
            new RandomRunsTest(run).go();
        }
        Check.end();
    }

    private void go() {
        while (calls < CALLS) {
            int chosen = random.nextInt(10);
            if (chosen == 0) {
                text();
            } else if (chosen < 6) {
                changing(random.nextInt(14));
            } else {
                reading(random.nextInt(KINDS));
            }
        }
    }

    private void same(String told, Check.Call got, Check.Call want) {
        calls++;
        if (calls <= CALLS) {
            Check.due("run " + run + ", call " + calls + ", " + told, got, Check.answerOf(want));
        }
    }

    /** Mostly within a range, seldom just outside of it or far away. */
    private int near(int low, int high) {
        int chosen = random.nextInt(40);
        if (chosen == 0) {
            return random.nextBoolean() ? Integer.MAX_VALUE : Integer.MIN_VALUE;
        }
        return chosen < 5 ? (random.nextBoolean() ? low - 1 : high + 1) : low + random.nextInt(high - low + 1);
    }

    private int section() {
        return near(0, Math.max(0, y.world.sections.size() - 1));
    }

    private int pipe() {
        return near(0, Math.max(0, y.world.pipes.size() - 1));
    }

    private char term() {
        return (char) near('a', 'h');
    }

    private int layer() {
        return near(0, y.world.pile.size());
    }

    private void changing(int kind) {
        int a = section();
        int b = section();
        int p = pipe();
        int units = random.nextInt(3) == 0 ? near(1, 99) : near(1, 30);
        int width = near(1, 20);
        int layer = layer();
        char term = term();
        switch (kind) {
            case 0: same("addSection", () -> x.addSection(), () -> y.change(y::addSection)); break;
            case 1: same("pour " + a + " " + units, () -> x.pour(a, units), () -> y.change(() -> y.pour(a, units))); break;
            case 2: same("tag " + a + term, () -> x.tag(a, term), () -> y.change(() -> y.tag(a, term))); break;
            case 3: same("untag " + a + term, () -> x.untag(a, term), () -> y.change(() -> y.untag(a, term))); break;
            case 4:
            case 5: same("fold " + layer, () -> x.fold(layer), () -> y.change(() -> y.fold(layer))); break;
            case 6: same("unfold", () -> x.unfold(), () -> y.change(y::unfold)); break;
            case 7:
            case 8: same("layPipe", () -> x.layPipe(a, b, width), () -> y.change(() -> y.layPipe(a, b, width))); break;
            case 9: same("removePipe", () -> x.removePipe(p), () -> y.change(() -> y.removePipe(p))); break;
            case 10: same("breakPipe", () -> x.breakPipe(p), () -> y.change(() -> y.setBroken(p, true))); break;
            case 11: same("mendPipe", () -> x.mendPipe(p), () -> y.change(() -> y.setBroken(p, false))); break;
            case 12: same("drain", () -> x.drain(), () -> y.change(y::drain)); break;
            default: same("seep", () -> x.seep(), () -> y.change(y::seep)); break;
        }
    }

    private void reading(int kind) {
        int a = section();
        int p = pipe();
        int layer = layer();
        char term = term();
        switch (kind) {
            case 0: same("water", () -> x.water(a), () -> y.water(a)); break;
            case 1: same("hasTerm", () -> x.hasTerm(a, term), () -> y.hasTerm(a, term)); break;
            case 2: same("sectionsWith", () -> x.sectionsWith(term), () -> y.sectionsWith(term)); break;
            case 3:
            case 4: same("sectionByWater " + a, () -> x.sectionByWater(a), () -> y.sectionByWater(a)); break;
            case 5: same("foldedCount", () -> x.foldedCount(), () -> y.world.pile.size()); break;
            case 6: same("layerOf " + a, () -> x.layerOf(a), () -> y.layerOf(a)); break;
            case 7: same("sectionIn " + layer, () -> x.sectionIn(layer), () -> y.sectionIn(layer)); break;
            case 8: same("canFold " + layer, () -> x.canFold(layer), () -> y.canFold(layer)); break;
            case 9: same("completions", () -> x.completions(), y::completions); break;
            case 10: same("completionsByOrders", () -> x.completionsByOrders(), y::completions); break;
            case 11: same("pipeCount", () -> x.pipeCount(), () -> y.world.pipes.size()); break;
            case 12: same("pipeFrom", () -> x.pipeFrom(p), () -> y.pipeFrom(p)); break;
            case 13: same("pipeTo", () -> x.pipeTo(p), () -> y.pipeTo(p)); break;
            case 14: same("capacity", () -> x.capacity(p), () -> y.capacity(p)); break;
            case 15: same("isBroken", () -> x.isBroken(p), () -> y.isBroken(p)); break;
            case 16:
            case 17: same("greatestFlow", () -> x.greatestFlow(), y::greatestFlow); break;
            case 18: same("smallestCut", () -> x.smallestCut(), y::greatestFlow); break;
            case 19:
            case 20: same("lossOf " + p, () -> x.lossOf(p), () -> y.lossOf(p)); break;
            case 21: same("totalWater", () -> x.totalWater(), y::totalWater); break;
            case 22: same("totalWaterByAccounts", () -> x.totalWaterByAccounts(), y::totalWater); break;
            case 23: same("poured", () -> x.poured(), () -> y.world.poured); break;
            case 24: same("leaked", () -> x.leaked(), () -> y.world.leaked); break;
            case 25: same("meanWater", () -> x.meanWater(), y::meanWater); break;
            case 26: same("leakedShare", () -> x.leakedShare(), y::leakedShare); break;
            default: remembering(kind); break;
        }
    }

    private void remembering(int kind) {
        int a = section();
        switch (kind) {
            case 27: same("faultPosition", () -> x.faultPosition(), y::faultPosition); break;
            case 28:
            case 29:
            case 30:
                same("writeSection " + a, () -> x.writeSection(a), () -> y.writeSection(a));
                line();
                break;
            case 31:
            case 32:
                same("writePile", () -> x.writePile(), y::writePile);
                line();
                break;
            case 33:
            case 34: same("denial", () -> x.denial(), () -> y.denial(0)); break;
            case 35:
            case 36: same("denialDetail", () -> x.denialDetail(), () -> y.denial(1)); break;
            case 37:
            case 38: same("denialCause", () -> x.denialCause(), () -> y.denial(2)); break;
            case 39:
            case 40:
            case 41: same("undo", () -> x.undo(), y::undo); break;
            case 42: same("undoCount", () -> x.undoCount(), () -> y.past.size()); break;
            case 43: same("saveSnapshot", () -> x.saveSnapshot(), y::saveSnapshot); break;
            case 44: same("restoreSnapshot", () -> x.restoreSnapshot(), y::restoreSnapshot); break;
            case 45: same("sectionCount", () -> x.sectionCount(), () -> y.world.sections.size()); break;
            default: line(); break;
        }
    }

    private void line() {
        int index = near(0, Math.max(0, y.line.length() - 1));
        same("lineCharacter " + index, () -> x.lineCharacter(index), () -> y.lineCharacter(index));
    }

    private void text() {
        if (random.nextInt(4) != 0) {
            same("clearText", () -> x.clearText(), y::clearText);
        }
        boolean commands = random.nextBoolean();
        String text = spoilt(commands ? commands() : search(random.nextInt(3)));
        for (char sign : text.toCharArray()) {
            same("feed " + sign, () -> x.feed(sign), () -> y.feed(sign));
        }
        String given = y.text.toString();
        int a = section();
        if (commands || random.nextInt(20) == 0) {
            same("execute " + given, () -> x.execute(), y::execute);
        } else {
            same("search " + given, () -> x.search(), y::search);
            same("matches " + given, () -> x.matches(a), () -> y.matches(a));
        }
        same("faultPosition of " + given, () -> x.faultPosition(), y::faultPosition);
    }

    private String spoilt(String text) {
        if (text.isEmpty() || random.nextInt(3) != 0) {
            return text;
        }
        int place = random.nextInt(text.length());
        String signs = "abh019 ;>+-()dnpux\0\u00e9";
        String sign = String.valueOf(signs.charAt(random.nextInt(signs.length())));
        switch (random.nextInt(3)) {
            case 0: return text.substring(0, place);
            case 1: return text.substring(0, place) + sign + text.substring(place);
            default: return text.substring(0, place) + sign + text.substring(place + 1);
        }
    }

    private String digit() {
        return String.valueOf(random.nextInt(20) == 0 ? random.nextInt(10) : random.nextInt(4));
    }

    private String commands() {
        StringBuilder text = new StringBuilder();
        for (int left = random.nextInt(5); left >= 0; left--) {
            text.append(command()).append(left > 0 ? ";" : "");
        }
        return text.toString();
    }

    private String command() {
        switch (random.nextInt(12)) {
            case 0: return "add";
            case 1: return "pour " + digit() + " " + random.nextInt(100);
            case 2: return "tag " + digit() + (char) ('a' + random.nextInt(8));
            case 3: return "untag " + digit() + (char) ('a' + random.nextInt(8));
            case 4: return "fold " + digit();
            case 5: return "open";
            case 6: return "pipe " + digit() + ">" + digit() + " " + random.nextInt(22);
            case 7: return "cut " + digit();
            case 8: return "break " + digit();
            case 9: return "mend " + digit();
            case 10: return "drain";
            default: return "seep";
        }
    }

    private String search(int depth) {
        StringBuilder text = new StringBuilder();
        for (int products = random.nextInt(3); products >= 0; products--) {
            for (int factors = random.nextInt(3); factors >= 0; factors--) {
                text.append("-".repeat(Math.max(0, random.nextInt(5) - 2)));
                boolean deeper = depth < 6 && random.nextInt(3) == 0;
                text.append(deeper ? "(" + search(depth + 1) + ")" : String.valueOf((char) ('a' + random.nextInt(8))));
            }
            text.append(products > 0 ? "+" : "");
        }
        return text.toString();
    }
}
