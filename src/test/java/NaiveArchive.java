import java.util.ArrayDeque;
import java.util.ArrayList;
import java.util.Comparator;
import java.util.Deque;
import java.util.List;
import java.util.NoSuchElementException;
import java.util.TreeSet;
import java.util.regex.Matcher;
import java.util.regex.Pattern;

/**
 * The document once more, as slow and as literal as can be: piles as lists, grammars as regular expressions, flows as
 * smallest cuts and foldings as permutations, so that a slip in the class is not repeated here.
 */
final class NaiveArchive {
    private static final String COMMAND = "(?:add|pour [0-9] [0-9]{1,2}|tag [0-9][a-h]|untag [0-9][a-h]|fold [0-9]|open"
        + "|pipe [0-9]>[0-9] [0-9]{1,2}|cut [0-9]|break [0-9]|mend [0-9]|drain|seep)";
    private static final Pattern COMMANDS = Pattern.compile(COMMAND + "(?:;" + COMMAND + ")*");

    static final class Section {
        int water;
        TreeSet<Character> terms = new TreeSet<>();
    }

    static final class Pipe {
        int from;
        int to;
        int capacity;
        boolean broken;
    }

    static final class World {
        List<Section> sections = new ArrayList<>();
        List<Integer> pile = new ArrayList<>();
        List<Pipe> pipes = new ArrayList<>();
        int poured;
        int leaked;

        World copy() {
            World other = new World();
            for (Section section : sections) {
                Section twin = new Section();
                twin.water = section.water;
                twin.terms.addAll(section.terms);
                other.sections.add(twin);
            }
            other.pile.addAll(pile);
            for (Pipe pipe : pipes) {
                Pipe twin = new Pipe();
                twin.from = pipe.from;
                twin.to = pipe.to;
                twin.capacity = pipe.capacity;
                twin.broken = pipe.broken;
                other.pipes.add(twin);
            }
            other.poured = poured;
            other.leaked = leaked;
            return other;
        }
    }

    World world = new World();
    World saved = null;
    Deque<World> past = new ArrayDeque<>();
    StringBuilder text = new StringBuilder();
    String line = "";
    int fault = -1;
    int[] denial = null;

    private UnsupportedOperationException deny(int number, int detail) {
        denial = new int[] {number, detail, -1};
        return new UnsupportedOperationException();
    }

    private Section section(int number) {
        if (number < 0 || number >= world.sections.size()) {
            throw new IndexOutOfBoundsException();
        }
        return world.sections.get(number);
    }

    private Pipe pipe(int index) {
        if (index < 0 || index >= world.pipes.size()) {
            throw new IndexOutOfBoundsException();
        }
        return world.pipes.get(index);
    }

    private static char term(char term) {
        if ("abcdefgh".indexOf(term) < 0) {
            throw new IllegalArgumentException();
        }
        return term;
    }

    private void remember(World before) {
        past.addLast(before);
        if (past.size() > 8) {
            past.removeFirst();
        }
    }

    /** A change by a call: what it throws leaves no trace but the denial. */
    Object change(Check.Call call) {
        World before = world.copy();
        Object answer = call.answer();
        remember(before);
        return answer;
    }

    Object addSection() {
        if (world.sections.size() == 7) {
            throw deny(1, 7);
        }
        world.sections.add(new Section());
        return world.sections.size() - 1;
    }

    Object pour(int number, int units) {
        Section section = section(number);
        if (units < 1 || units > 99) {
            throw new IllegalArgumentException();
        }
        if (section.water + units > 99) {
            throw deny(1, 99);
        }
        world.poured += units;
        return section.water += units;
    }

    Object tag(int number, char term) {
        Section section = section(number);
        if (!section.terms.add(term(term))) {
            throw deny(5, section.terms.size());
        }
        return section.terms.size();
    }

    Object untag(int number, char term) {
        Section section = section(number);
        if (!section.terms.remove(term(term))) {
            throw deny(5, section.terms.size());
        }
        return section.terms.size();
    }

    Object water(int number) {
        return section(number).water;
    }

    Object hasTerm(int number, char term) {
        return section(number).terms.contains(term(term));
    }

    Object sectionsWith(char term) {
        term(term);
        return world.sections.stream().filter(section -> section.terms.contains(term)).count();
    }

    Object sectionByWater(int rank) {
        List<Integer> order = new ArrayList<>();
        for (int number = 0; number < world.sections.size(); number++) {
            order.add(number);
        }
        order.sort(Comparator.comparingInt((Integer number) -> -section(number).water)
            .thenComparingInt(number -> -section(number).terms.size()).thenComparingInt(number -> number));
        if (rank < 0 || rank >= order.size()) {
            throw new NoSuchElementException();
        }
        return order.get(rank);
    }

    private static boolean cross(List<Integer> pile, int crease, int other) {
        if (crease % 2 != other % 2 || crease == other) {
            return false;
        }
        int a = Math.min(pile.indexOf(crease), pile.indexOf(crease + 1));
        int b = Math.max(pile.indexOf(crease), pile.indexOf(crease + 1));
        int c = Math.min(pile.indexOf(other), pile.indexOf(other + 1));
        int d = Math.max(pile.indexOf(other), pile.indexOf(other + 1));
        return a < c && c < b && b < d || c < a && a < d && d < b;
    }

    private static int lowestCrossed(List<Integer> pile) {
        for (int crease = 0; crease < pile.size() - 2; crease++) {
            if (cross(pile, crease, pile.size() - 2)) {
                return crease;
            }
        }
        return -1;
    }

    private List<Integer> pileWith(int layer) {
        List<Integer> pile = new ArrayList<>(world.pile);
        pile.add(layer, pile.size());
        return pile;
    }

    private void layer(int layer) {
        if (layer < 0 || layer > world.pile.size()) {
            throw new IndexOutOfBoundsException();
        }
    }

    Object fold(int layer) {
        layer(layer);
        if (world.pile.size() == world.sections.size()) {
            throw deny(2, world.sections.size());
        }
        int crossed = lowestCrossed(pileWith(layer));
        if (crossed >= 0) {
            throw deny(4, crossed);
        }
        world.pile = pileWith(layer);
        return world.pile.size();
    }

    Object unfold() {
        if (world.pile.isEmpty()) {
            throw deny(3, world.sections.size());
        }
        int layer = world.pile.indexOf(world.pile.size() - 1);
        world.pile.remove(layer);
        return layer;
    }

    Object layerOf(int number) {
        section(number);
        if (!world.pile.contains(number)) {
            throw new NoSuchElementException();
        }
        return world.pile.indexOf(number);
    }

    Object sectionIn(int layer) {
        if (layer < 0 || layer >= world.pile.size()) {
            throw new IndexOutOfBoundsException();
        }
        return world.pile.get(layer);
    }

    Object canFold(int layer) {
        layer(layer);
        return world.pile.size() < world.sections.size() && lowestCrossed(pileWith(layer)) < 0;
    }

    Object completions() {
        return foldingsFrom(new ArrayList<>());
    }

    private int foldingsFrom(List<Integer> order) {
        int total = world.sections.size();
        if (order.size() == total) {
            List<Integer> folded = new ArrayList<>(order);
            folded.removeIf(number -> number >= world.pile.size());
            return folded.equals(world.pile) && isFolding(order) ? 1 : 0;
        }
        int found = 0;
        for (int number = 0; number < total; number++) {
            if (!order.contains(number)) {
                order.add(number);
                found += foldingsFrom(order);
                order.remove(order.size() - 1);
            }
        }
        return found;
    }

    private static boolean isFolding(List<Integer> order) {
        for (int crease = 0; crease + 1 < order.size(); crease++) {
            for (int other = 0; other < crease; other++) {
                if (cross(order, crease, other)) {
                    return false;
                }
            }
        }
        return true;
    }

    Object layPipe(int from, int to, int capacity) {
        section(from);
        section(to);
        if (from == to || capacity < 1 || capacity > 20) {
            throw new IllegalArgumentException();
        }
        if (world.pipes.size() == 10) {
            throw deny(1, 10);
        }
        Pipe pipe = new Pipe();
        pipe.from = from;
        pipe.to = to;
        pipe.capacity = capacity;
        world.pipes.add(pipe);
        return world.pipes.size() - 1;
    }

    Object removePipe(int index) {
        pipe(index);
        world.pipes.remove(index);
        return world.pipes.size();
    }

    Object setBroken(int index, boolean broken) {
        Pipe pipe = pipe(index);
        if (pipe.broken == broken) {
            throw deny(6, pipe.capacity);
        }
        pipe.broken = broken;
        return broken();
    }

    private int broken() {
        return (int) world.pipes.stream().filter(pipe -> pipe.broken).count();
    }

    Object pipeFrom(int index) {
        return pipe(index).from;
    }

    Object pipeTo(int index) {
        return pipe(index).to;
    }

    Object capacity(int index) {
        return pipe(index).capacity;
    }

    Object isBroken(int index) {
        return pipe(index).broken;
    }

    private void ends() {
        if (world.sections.size() < 2) {
            throw deny(7, world.sections.size());
        }
    }

    private int smallestCut(Pipe without) {
        int last = world.sections.size() - 1;
        int least = Integer.MAX_VALUE;
        for (int set = 0; set < 1 << last + 1; set++) {
            if ((set & 1) == 1 && (set & 1 << last) == 0) {
                int size = 0;
                for (Pipe pipe : world.pipes) {
                    boolean leads = (set & 1 << pipe.from) != 0 && (set & 1 << pipe.to) == 0;
                    size += leads && !pipe.broken && pipe != without ? pipe.capacity : 0;
                }
                least = Math.min(least, size);
            }
        }
        return least;
    }

    Object greatestFlow() {
        ends();
        return smallestCut(null);
    }

    Object lossOf(int index) {
        return smallestCut(null) - smallestCut(pipe(index));
    }

    Object drain() {
        ends();
        Section first = world.sections.get(0);
        Section last = world.sections.get(world.sections.size() - 1);
        int leaving = Math.min(first.water, smallestCut(null));
        for (int unit = 0; unit < leaving; unit++) {
            first.water--;
            if (unit < broken() || last.water == 99) {
                world.leaked++;
            } else {
                last.water++;
            }
        }
        return leaving;
    }

    Object seep() {
        if (world.pile.isEmpty()) {
            throw deny(3, world.sections.size());
        }
        int leakedBefore = world.leaked;
        for (int layer = world.pile.size() - 1; layer >= 0; layer--) {
            Section section = world.sections.get(world.pile.get(layer));
            while (section.water > 20) {
                section.water--;
                Section below = layer > 0 ? world.sections.get(world.pile.get(layer - 1)) : null;
                if (below == null || below.water == 99) {
                    world.leaked++;
                } else {
                    below.water++;
                }
            }
        }
        return world.leaked - leakedBefore;
    }

    int totalWater() {
        return world.sections.stream().mapToInt(section -> section.water).sum();
    }

    Object meanWater() {
        if (world.sections.isEmpty()) {
            throw new ArithmeticException();
        }
        return (double) totalWater() / (double) world.sections.size();
    }

    Object leakedShare() {
        if (world.poured == 0) {
            throw new ArithmeticException();
        }
        return (float) world.leaked / (float) world.poured;
    }

    Object feed(char sign) {
        if (text.length() == 60) {
            throw new IllegalStateException();
        }
        return text.append(sign).length();
    }

    Object clearText() {
        int length = text.length();
        text.setLength(0);
        return length;
    }

    /** A text continues to a longer one of the language where the matcher ran into its end, asking for more. */
    private static int commandFault(String text) {
        if (COMMANDS.matcher(text).matches()) {
            return -1;
        }
        for (int length = 1; length <= text.length(); length++) {
            Matcher matcher = COMMANDS.matcher(text.substring(0, length));
            if (!matcher.matches() && !matcher.hitEnd()) {
                return length - 1;
            }
        }
        return text.length();
    }

    /** What may follow is told by the last character and by how many parentheses are open. */
    private static int searchFault(String text) {
        int open = 0;
        char last = '+';
        for (int place = 0; place < text.length(); place++) {
            char sign = text.charAt(place);
            boolean complete = "abcdefgh)".indexOf(last) >= 0;
            boolean starts = "abcdefgh-".indexOf(sign) >= 0 || sign == '(' && open < 4;
            boolean goesOn = complete && (sign == '+' || sign == ')' && open > 0);
            if (!starts && !goesOn) {
                return place;
            }
            open += sign == '(' ? 1 : sign == ')' ? -1 : 0;
            last = sign;
        }
        return open == 0 && "abcdefgh)".indexOf(last) >= 0 ? -1 : text.length();
    }

    /** Replaces innermost parts by 0 or 1 until one is left; a text of digits alone is a product. */
    private static boolean standsFor(String search, TreeSet<Character> terms) {
        StringBuilder bits = new StringBuilder();
        for (char sign : search.toCharArray()) {
            bits.append("abcdefgh".indexOf(sign) < 0 ? sign : terms.contains(sign) ? '1' : '0');
        }
        String rest = bits.toString();
        String before = "";
        while (!rest.equals(before)) {
            before = rest;
            rest = rest.replace("--", "").replace("-0", "1").replace("-1", "0");
            if (rest.equals(before)) {
                rest = rest.replaceAll("1*0[01]*", "0").replaceAll("11+", "1");
            }
            if (rest.equals(before)) {
                rest = rest.replaceAll("(?<=^|\\()([01])\\+([01])(?=$|[+)])", "<$1$2>").replace("<00>", "0");
                rest = rest.replaceAll("<..>", "1").replaceAll("\\(([01])\\)", "$1");
            }
        }
        return rest.equals("1");
    }

    private void searchText() {
        if (searchFault(text.toString()) >= 0) {
            fault = searchFault(text.toString());
            throw new IllegalArgumentException();
        }
    }

    Object search() {
        searchText();
        return world.sections.stream().filter(section -> standsFor(text.toString(), section.terms)).count();
    }

    Object matches(int number) {
        Section section = section(number);
        searchText();
        return standsFor(text.toString(), section.terms);
    }

    Object execute() {
        String given = text.toString();
        text.setLength(0);
        if (commandFault(given) >= 0) {
            fault = commandFault(given);
            throw new IllegalArgumentException();
        }
        World before = world.copy();
        String[] commands = given.split(";");
        for (int index = 0; index < commands.length; index++) {
            String failure = null;
            try {
                run(commands[index]);
            } catch (UnsupportedOperationException thrown) {
                failure = "denied";
            } catch (RuntimeException thrown) {
                failure = "other";
            }
            if (failure != null) {
                world = before;
                denial = new int[] {8, index, failure.equals("denied") ? denial[0] : 9};
                throw new UnsupportedOperationException();
            }
        }
        remember(before);
        return commands.length;
    }

    private Object run(String command) {
        String[] words = command.split("[ >]");
        int first = words.length > 1 ? words[1].charAt(0) - '0' : 0;
        switch (words[0]) {
            case "add": return addSection();
            case "pour": return pour(first, Integer.parseInt(words[2]));
            case "tag": return tag(first, words[1].charAt(1));
            case "untag": return untag(first, words[1].charAt(1));
            case "fold": return fold(first);
            case "open": return unfold();
            case "pipe": return layPipe(first, Integer.parseInt(words[2]), Integer.parseInt(words[3]));
            case "cut": return removePipe(first);
            case "break": return setBroken(first, true);
            case "mend": return setBroken(first, false);
            case "drain": return drain();
            default: return seep();
        }
    }

    Object faultPosition() {
        if (fault < 0) {
            throw new NoSuchElementException();
        }
        return fault;
    }

    Object writeSection(int number) {
        Section section = section(number);
        line = number + ":" + section.water;
        for (char term : section.terms) {
            line += term;
        }
        if (world.pile.contains(number)) {
            line += "^" + world.pile.indexOf(number);
        }
        return line.length();
    }

    Object writePile() {
        line = "";
        for (int number : world.pile) {
            line += number;
        }
        return line.length();
    }

    Object lineCharacter(int index) {
        if (index < 0 || index >= line.length()) {
            throw new IndexOutOfBoundsException();
        }
        return line.charAt(index);
    }

    Object denial(int part) {
        if (denial == null || denial[part] < 0) {
            throw new NoSuchElementException();
        }
        return denial[part];
    }

    Object undo() {
        if (past.isEmpty()) {
            throw new IllegalStateException();
        }
        world = past.removeLast();
        return past.size();
    }

    Object saveSnapshot() {
        saved = world.copy();
        return world.sections.size();
    }

    Object restoreSnapshot() {
        if (saved == null) {
            throw new IllegalStateException();
        }
        world = saved.copy();
        past.clear();
        return world.sections.size();
    }
}
