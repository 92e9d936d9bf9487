import java.util.NoSuchElementException;

/**
 * An archive of a river map that is folded like a strip of stamps: sections with water and terms, layers whose
 * creases must not cross, pipes with a greatest flow, leaks, and an index that is searched with expressions.
 */
public final class FoldedArchive {

    private static final int SECTION_LIMIT = 7;
    private static final int WATER_LIMIT = 99;
    private static final int PIPE_LIMIT = 10;
    private static final int CAPACITY_LIMIT = 20;
    private static final int SEEP_LEVEL = 20;
    private static final int TEXT_LIMIT = 60;
    private static final int UNDO_LIMIT = 8;
    private static final int OPEN_LIMIT = 4;
    private static final int DIGIT_LIMIT = 9;
    private static final int OPERAND_LIMIT = 3;

    // The longest line is a section with two digits of water, all terms and a layer: "6:99abcdefgh^6".
    private static final int LINE_LIMIT = 14;

    private static final char FIRST_TERM = 'a';
    private static final char LAST_TERM = 'h';
    private static final int TERM_COUNT = 8;

    private static final int NONE = -1;

    // A verdict is one number, so that judging a call makes no object: a denial is its number times DENIAL_UNIT plus
    // its detail, which the limits of the archive keep below DENIAL_UNIT.
    private static final int FINE = 0;
    private static final int NO_SUCH_INDEX = -1;
    private static final int BAD_ARGUMENT = -2;
    private static final int DENIAL_UNIT = 100;

    private static final int LIMIT_REACHED = 1;
    private static final int ALL_FOLDED = 2;
    private static final int NONE_FOLDED = 3;
    private static final int CREASES_CROSS = 4;
    private static final int TERM_STATE = 5;
    private static final int PIPE_STATE = 6;
    private static final int TOO_FEW_SECTIONS = 7;
    private static final int COMMAND_FAILED = 8;
    private static final int OTHER_EXCEPTION = 9;

    private static final int ADD = 0;
    private static final int POUR = 1;
    private static final int TAG = 2;
    private static final int UNTAG = 3;
    private static final int FOLD = 4;
    private static final int OPEN = 5;
    private static final int PIPE = 6;
    private static final int CUT = 7;
    private static final int BREAK = 8;
    private static final int MEND = 9;
    private static final int DRAIN = 10;
    private static final int SEEP = 11;
    private static final int COMMAND_KINDS = 12;

    private final State state;
    private final State beforeText;
    private final State snapshot;
    private final History history;
    private final FlowSearch flows;
    private final FoldingSearch foldings;
    private final Row text;
    private final Row line;
    private final SearchReader searches;
    private final CommandReader commands;

    private boolean snapshotSaved;
    private int keptFault;
    private int deniedNumber;
    private int deniedDetail;
    private int deniedCause;

    public FoldedArchive() {
        state = new State();
        beforeText = new State();
        snapshot = new State();
        history = new History();
        flows = new FlowSearch();
        foldings = new FoldingSearch();
        text = new Row(TEXT_LIMIT);
        line = new Row(LINE_LIMIT);
        searches = new SearchReader();
        commands = new CommandReader();
        snapshotSaved = false;
        keptFault = NONE;
        deniedNumber = NONE;
        deniedDetail = NONE;
        deniedCause = NONE;
    }

    // ---- sections

    public int addSection() throws UnsupportedOperationException {
        return change(ADD, 0, 0, 0);
    }

    public int pour(int section, int units)
            throws IndexOutOfBoundsException, IllegalArgumentException, UnsupportedOperationException {
        return change(POUR, section, units, 0);
    }

    public int tag(int section, char term)
            throws IndexOutOfBoundsException, IllegalArgumentException, UnsupportedOperationException {
        return change(TAG, section, term, 0);
    }

    public int untag(int section, char term)
            throws IndexOutOfBoundsException, IllegalArgumentException, UnsupportedOperationException {
        return change(UNTAG, section, term, 0);
    }

    public int sectionCount() {
        return state.strip.count;
    }

    public int water(int section) throws IndexOutOfBoundsException {
        requireSection(section);
        return state.strip.waterOf(section);
    }

    public boolean hasTerm(int section, char term) throws IndexOutOfBoundsException, IllegalArgumentException {
        requireSection(section);
        requireTerm(term);
        return state.strip.bears(section, term);
    }

    public int sectionsWith(char term) throws IllegalArgumentException {
        requireTerm(term);
        return Integer.bitCount(state.strip.bearersOf(term));
    }

    public int sectionByWater(int rank) throws NoSuchElementException {
        int section = state.strip.sectionAtRank(rank);
        if (section == NONE) {
            throw new NoSuchElementException();
        }
        return section;
    }

    // ---- layers

    public int fold(int layer) throws IndexOutOfBoundsException, UnsupportedOperationException {
        return change(FOLD, layer, 0, 0);
    }

    public int unfold() throws UnsupportedOperationException {
        return change(OPEN, 0, 0, 0);
    }

    public int foldedCount() {
        return state.pile.folded;
    }

    public int layerOf(int section) throws IndexOutOfBoundsException, NoSuchElementException {
        requireSection(section);
        int layer = state.pile.layerHolding(section);
        if (layer == NONE) {
            throw new NoSuchElementException();
        }
        return layer;
    }

    public int sectionIn(int layer) throws IndexOutOfBoundsException {
        int section = state.pile.sectionAt(layer);
        if (section == NONE) {
            throw new IndexOutOfBoundsException();
        }
        return section;
    }

    public boolean canFold(int layer) throws IndexOutOfBoundsException {
        int verdict = state.judgeFold(layer);
        if (verdict == NO_SUCH_INDEX) {
            throw new IndexOutOfBoundsException();
        }
        return verdict == FINE;
    }

    public int completions() {
        return foldings.countByFolding(state.pile, state.strip.count);
    }

    public int completionsByOrders() {
        return foldings.countByOrders(state.pile, state.strip.count);
    }

    // ---- pipes

    public int layPipe(int from, int to, int capacity)
            throws IndexOutOfBoundsException, IllegalArgumentException, UnsupportedOperationException {
        return change(PIPE, from, to, capacity);
    }

    public int removePipe(int pipe) throws IndexOutOfBoundsException {
        return change(CUT, pipe, 0, 0);
    }

    public int breakPipe(int pipe) throws IndexOutOfBoundsException, UnsupportedOperationException {
        return change(BREAK, pipe, 0, 0);
    }

    public int mendPipe(int pipe) throws IndexOutOfBoundsException, UnsupportedOperationException {
        return change(MEND, pipe, 0, 0);
    }

    public int pipeCount() {
        return state.pipes.count;
    }

    public int pipeFrom(int pipe) throws IndexOutOfBoundsException {
        requirePipe(pipe);
        return state.pipes.startOf(pipe);
    }

    public int pipeTo(int pipe) throws IndexOutOfBoundsException {
        requirePipe(pipe);
        return state.pipes.endOf(pipe);
    }

    public int capacity(int pipe) throws IndexOutOfBoundsException {
        requirePipe(pipe);
        return state.pipes.widthOf(pipe);
    }

    public boolean isBroken(int pipe) throws IndexOutOfBoundsException {
        requirePipe(pipe);
        return state.pipes.brokenAt(pipe);
    }

    public int greatestFlow() throws UnsupportedOperationException {
        obey(state.judgeEnds());
        return flows.greatest(state.pipes, state.strip.count, NONE);
    }

    public int smallestCut() throws UnsupportedOperationException {
        obey(state.judgeEnds());
        return flows.smallest(state.pipes, state.strip.count);
    }

    public int lossOf(int pipe) throws IndexOutOfBoundsException {
        requirePipe(pipe);
        int sections = state.strip.count;
        return flows.greatest(state.pipes, sections, NONE) - flows.greatest(state.pipes, sections, pipe);
    }

    // ---- water

    public int drain() throws UnsupportedOperationException {
        return change(DRAIN, 0, 0, 0);
    }

    public int seep() throws UnsupportedOperationException {
        return change(SEEP, 0, 0, 0);
    }

    public int totalWater() {
        return state.strip.waterSum();
    }

    public int totalWaterByAccounts() {
        return state.strip.pouredUnits - state.strip.leakedUnits;
    }

    public int poured() {
        return state.strip.pouredUnits;
    }

    public int leaked() {
        return state.strip.leakedUnits;
    }

    public double meanWater() throws ArithmeticException {
        if (state.strip.count <= 0) {
            throw new ArithmeticException();
        }
        return (double) state.strip.waterSum() / (double) state.strip.count;
    }

    public float leakedShare() throws ArithmeticException {
        if (state.strip.pouredUnits <= 0) {
            throw new ArithmeticException();
        }
        return (float) state.strip.leakedUnits / (float) state.strip.pouredUnits;
    }

    // ---- texts and output lines

    public int feed(char character) throws IllegalStateException {
        if (text.isFull()) {
            throw new IllegalStateException();
        }
        text.put(character);
        return text.length;
    }

    public int clearText() {
        int before = text.length;
        text.empty();
        return before;
    }

    public int search() throws IllegalArgumentException {
        searches.askForAll(state.strip);
        int found = searches.read(text);
        refuseFault(searches.fault);
        return Integer.bitCount(found);
    }

    public boolean matches(int section) throws IndexOutOfBoundsException, IllegalArgumentException {
        requireSection(section);
        searches.askForOne(state.strip, section);
        int found = searches.read(text);
        refuseFault(searches.fault);
        return found != 0;
    }

    public int execute() throws IllegalArgumentException, UnsupportedOperationException {
        commands.read(text);
        text.empty();
        refuseFault(commands.fault);
        beforeText.copyFrom(state);
        for (int command = 0; command < commands.count; command++) {
            int verdict = runCommand(command);
            if (verdict != FINE) {
                state.copyFrom(beforeText);
                recordDenial(COMMAND_FAILED, command, causeOf(verdict));
                throw new UnsupportedOperationException();
            }
        }
        history.keep(beforeText);
        return commands.count;
    }

    public int faultPosition() throws NoSuchElementException {
        if (keptFault == NONE) {
            throw new NoSuchElementException();
        }
        return keptFault;
    }

    public int writeSection(int section) throws IndexOutOfBoundsException {
        requireSection(section);
        line.empty();
        line.putNumber(section);
        line.put(':');
        line.putNumber(state.strip.waterOf(section));
        for (int term = FIRST_TERM; term <= LAST_TERM; term++) {
            if (state.strip.bears(section, term)) {
                line.put((char) term);
            }
        }
        int layer = state.pile.layerHolding(section);
        if (layer != NONE) {
            line.put('^');
            line.putNumber(layer);
        }
        return line.length;
    }

    public int writePile() {
        line.empty();
        for (int layer = 0; layer < state.pile.folded; layer++) {
            line.putNumber(state.pile.sectionAt(layer));
        }
        return line.length;
    }

    public char lineCharacter(int index) throws IndexOutOfBoundsException {
        if (index < 0 || index >= line.length) {
            throw new IndexOutOfBoundsException();
        }
        return line.at(index);
    }

    // ---- the latest denial

    public int denial() throws NoSuchElementException {
        if (deniedNumber == NONE) {
            throw new NoSuchElementException();
        }
        return deniedNumber;
    }

    public int denialDetail() throws NoSuchElementException {
        if (deniedNumber == NONE) {
            throw new NoSuchElementException();
        }
        return deniedDetail;
    }

    public int denialCause() throws NoSuchElementException {
        if (deniedCause == NONE) {
            throw new NoSuchElementException();
        }
        return deniedCause;
    }

    // ---- undo and snapshots

    public int undo() throws IllegalStateException {
        if (history.count <= 0) {
            throw new IllegalStateException();
        }
        history.takeBack(state);
        return history.count;
    }

    public int undoCount() {
        return history.count;
    }

    public int saveSnapshot() {
        snapshot.copyFrom(state);
        snapshotSaved = true;
        return state.strip.count;
    }

    public int restoreSnapshot() throws IllegalStateException {
        if (!snapshotSaved) {
            throw new IllegalStateException();
        }
        state.copyFrom(snapshot);
        history.forget();
        return state.strip.count;
    }

    // ---- what the calls share

    private int change(int kind, int first, int second, int third) {
        obey(state.judge(kind, first, second, third));
        history.keep(state);
        return state.apply(kind, first, second, third, flows);
    }

    private int runCommand(int command) {
        int kind = commands.kindOf(command);
        int first = commands.operandOf(command, 0);
        int second = commands.operandOf(command, 1);
        int third = commands.operandOf(command, 2);
        int verdict = state.judge(kind, first, second, third);
        if (verdict == FINE) {
            state.apply(kind, first, second, third, flows);
        }
        return verdict;
    }

    private void obey(int verdict) {
        if (verdict == NO_SUCH_INDEX) {
            throw new IndexOutOfBoundsException();
        }
        if (verdict == BAD_ARGUMENT) {
            throw new IllegalArgumentException();
        }
        if (verdict != FINE) {
            recordDenial(verdict / DENIAL_UNIT, verdict % DENIAL_UNIT, NONE);
            throw new UnsupportedOperationException();
        }
    }

    private static int causeOf(int verdict) {
        return verdict > FINE ? verdict / DENIAL_UNIT : OTHER_EXCEPTION;
    }

    private void recordDenial(int number, int detail, int cause) {
        deniedNumber = number;
        deniedDetail = detail;
        deniedCause = cause;
    }

    private void requireSection(int section) {
        if (!state.strip.has(section)) {
            throw new IndexOutOfBoundsException();
        }
    }

    private void requirePipe(int pipe) {
        if (!state.pipes.has(pipe)) {
            throw new IndexOutOfBoundsException();
        }
    }

    private void requireTerm(int term) {
        if (!Strip.isTerm(term)) {
            throw new IllegalArgumentException();
        }
    }

    private void refuseFault(int fault) {
        if (fault != NONE) {
            keptFault = fault;
            throw new IllegalArgumentException();
        }
    }

    /** The sections with their water and terms, and the accounts of the water. */
    private static final class Strip {
        int count;
        int pouredUnits;
        int leakedUnits;
        final int[] water;
        // Bit t of a section's terms stands for the term t places after FIRST_TERM.
        final int[] terms;

        Strip() {
            water = new int[SECTION_LIMIT];
            terms = new int[SECTION_LIMIT];
        }

        void copyFrom(Strip other) {
            count = other.count;
            pouredUnits = other.pouredUnits;
            leakedUnits = other.leakedUnits;
            System.arraycopy(other.water, 0, water, 0, SECTION_LIMIT);
            System.arraycopy(other.terms, 0, terms, 0, SECTION_LIMIT);
        }

        static boolean isTerm(int sign) {
            return sign >= FIRST_TERM && sign <= LAST_TERM;
        }

        private static int bitOf(int term) {
            return isTerm(term) ? 1 << (term - FIRST_TERM) : 0;
        }

        boolean has(int section) {
            return section >= 0 && section < count;
        }

        int append() {
            if (count >= SECTION_LIMIT) {
                return NONE;
            }
            water[count] = 0;
            terms[count] = 0;
            count++;
            return count - 1;
        }

        int waterOf(int section) {
            return has(section) ? water[section] : 0;
        }

        int termCountOf(int section) {
            return has(section) ? Integer.bitCount(terms[section]) : 0;
        }

        boolean bears(int section, int term) {
            return has(section) && (terms[section] & bitOf(term)) != 0;
        }

        int bearersOf(int term) {
            int bearers = 0;
            for (int section = 0; section < count; section++) {
                if (bears(section, term)) {
                    bearers |= 1 << section;
                }
            }
            return bearers;
        }

        int giveTerm(int section, int term) {
            if (has(section)) {
                terms[section] |= bitOf(term);
            }
            return termCountOf(section);
        }

        int takeTerm(int section, int term) {
            if (has(section)) {
                terms[section] &= ~bitOf(term);
            }
            return termCountOf(section);
        }

        int receivePoured(int section, int units) {
            add(section, units);
            pouredUnits += units;
            return waterOf(section);
        }

        void give(int section, int units) {
            add(section, -units);
        }

        private void add(int section, int units) {
            if (has(section)) {
                water[section] += units;
            }
        }

        /** Answers what leaks because the section can't hold it. */
        int receive(int section, int units) {
            int taken = Math.min(units, WATER_LIMIT - waterOf(section));
            add(section, taken);
            return units - taken;
        }

        void leak(int units) {
            leakedUnits += units;
        }

        int waterSum() {
            int sum = 0;
            for (int section = 0; section < count; section++) {
                sum += water[section];
            }
            return sum;
        }

        private boolean comesBefore(int section, int other) {
            if (waterOf(section) != waterOf(other)) {
                return waterOf(section) > waterOf(other);
            }
            if (termCountOf(section) != termCountOf(other)) {
                return termCountOf(section) > termCountOf(other);
            }
            return section < other;
        }

        private int rankOf(int section) {
            int rank = 0;
            for (int other = 0; other < count; other++) {
                if (comesBefore(other, section)) {
                    rank++;
                }
            }
            return rank;
        }

        int sectionAtRank(int rank) {
            for (int section = 0; section < count; section++) {
                if (rankOf(section) == rank) {
                    return section;
                }
            }
            return NONE;
        }
    }

    /** The folded sections, which always are the first ones of the strip. */
    private static final class Pile {
        int folded;
        // By section, not by layer: the ends of a crease are then neighbours, and only folding shifts layers.
        final int[] layers;

        Pile() {
            layers = new int[SECTION_LIMIT];
        }

        void copyFrom(Pile other) {
            folded = other.folded;
            System.arraycopy(other.layers, 0, layers, 0, SECTION_LIMIT);
        }

        int layerHolding(int section) {
            return section >= 0 && section < folded ? layers[section] : NONE;
        }

        int sectionAt(int layer) {
            for (int section = 0; section < folded; section++) {
                if (layers[section] == layer) {
                    return section;
                }
            }
            return NONE;
        }

        /** Whether two spans cross, the one from a to b and the one from c to d, if they are on the same side. */
        static boolean spansCross(int a, int b, int c, int d) {
            int low = Math.min(a, b);
            int high = Math.max(a, b);
            int otherLow = Math.min(c, d);
            int otherHigh = Math.max(c, d);
            if (low < otherLow) {
                return high > otherLow && high < otherHigh;
            }
            return otherHigh > low && otherHigh < high;
        }

        private int layerAfterInsert(int section, int layer) {
            int present = layerHolding(section);
            return present >= layer ? present + 1 : present;
        }

        /** Answers the lowest crease that crosses the one made by folding the next section into a layer, or NONE. */
        int creaseCrossedAt(int layer) {
            int newCrease = folded - 1;
            if (newCrease < 0) {
                return NONE;
            }
            int end = layerAfterInsert(newCrease, layer);
            for (int crease = newCrease % 2; crease < newCrease; crease += 2) {
                int from = layerAfterInsert(crease, layer);
                int to = layerAfterInsert(crease + 1, layer);
                if (spansCross(end, layer, from, to)) {
                    return crease;
                }
            }
            return NONE;
        }

        int insert(int layer) {
            if (folded >= SECTION_LIMIT) {
                return folded;
            }
            for (int section = 0; section < folded; section++) {
                layers[section] = layerAfterInsert(section, layer);
            }
            layers[folded] = layer;
            folded++;
            return folded;
        }

        int removeLast() {
            if (folded <= 0) {
                return NONE;
            }
            folded--;
            int layer = layers[folded];
            for (int section = 0; section < folded; section++) {
                if (layers[section] > layer) {
                    layers[section]--;
                }
            }
            return layer;
        }
    }

    /** The pipes in the order in which they were laid. */
    private static final class Pipes {
        int count;
        final int[] starts;
        final int[] ends;
        final int[] widths;
        final boolean[] broken;

        Pipes() {
            starts = new int[PIPE_LIMIT];
            ends = new int[PIPE_LIMIT];
            widths = new int[PIPE_LIMIT];
            broken = new boolean[PIPE_LIMIT];
        }

        void copyFrom(Pipes other) {
            count = other.count;
            System.arraycopy(other.starts, 0, starts, 0, PIPE_LIMIT);
            System.arraycopy(other.ends, 0, ends, 0, PIPE_LIMIT);
            System.arraycopy(other.widths, 0, widths, 0, PIPE_LIMIT);
            // By a loop, for the language has arraycopy for numbers alone.
            for (int pipe = 0; pipe < PIPE_LIMIT; pipe++) {
                broken[pipe] = other.broken[pipe];
            }
        }

        boolean has(int pipe) {
            return pipe >= 0 && pipe < count;
        }

        int startOf(int pipe) {
            return has(pipe) ? starts[pipe] : NONE;
        }

        int endOf(int pipe) {
            return has(pipe) ? ends[pipe] : NONE;
        }

        int widthOf(int pipe) {
            return has(pipe) ? widths[pipe] : 0;
        }

        boolean brokenAt(int pipe) {
            return has(pipe) && broken[pipe];
        }

        int brokenCount() {
            int sum = 0;
            for (int pipe = 0; pipe < count; pipe++) {
                if (broken[pipe]) {
                    sum++;
                }
            }
            return sum;
        }

        int append(int from, int to, int width) {
            if (count >= PIPE_LIMIT) {
                return NONE;
            }
            starts[count] = from;
            ends[count] = to;
            widths[count] = width;
            broken[count] = false;
            count++;
            return count - 1;
        }

        int remove(int pipe) {
            if (!has(pipe)) {
                return count;
            }
            for (int later = pipe + 1; later < count; later++) {
                starts[later - 1] = starts[later];
                ends[later - 1] = ends[later];
                widths[later - 1] = widths[later];
                broken[later - 1] = broken[later];
            }
            count--;
            return count;
        }

        int setBroken(int pipe, boolean value) {
            if (has(pipe)) {
                broken[pipe] = value;
            }
            return brokenCount();
        }
    }

    /** Everything that changes can change; judging a change comes before applying it and changes nothing. */
    private static final class State {
        final Strip strip;
        final Pile pile;
        final Pipes pipes;

        State() {
            strip = new Strip();
            pile = new Pile();
            pipes = new Pipes();
        }

        void copyFrom(State other) {
            strip.copyFrom(other.strip);
            pile.copyFrom(other.pile);
            pipes.copyFrom(other.pipes);
        }

        int judge(int kind, int first, int second, int third) {
            switch (kind) {
                case ADD:
                    return strip.count < SECTION_LIMIT ? FINE : denied(LIMIT_REACHED, SECTION_LIMIT);
                case POUR:
                    return judgePour(first, second);
                case TAG:
                    return judgeTerm(first, second, false);
                case UNTAG:
                    return judgeTerm(first, second, true);
                case FOLD:
                    return judgeFold(first);
                case PIPE:
                    return judgePipe(first, second, third);
                case CUT:
                    return pipes.has(first) ? FINE : NO_SUCH_INDEX;
                case BREAK:
                    return judgeBroken(first, false);
                case MEND:
                    return judgeBroken(first, true);
                case DRAIN:
                    return judgeEnds();
                case OPEN:
                case SEEP:
                    return pile.folded > 0 ? FINE : denied(NONE_FOLDED, strip.count);
                default:
                    return BAD_ARGUMENT;
            }
        }

        private static int denied(int number, int detail) {
            return number * DENIAL_UNIT + detail;
        }

        private int judgePour(int section, int units) {
            if (!strip.has(section)) {
                return NO_SUCH_INDEX;
            }
            if (units < 1 || units > WATER_LIMIT) {
                return BAD_ARGUMENT;
            }
            return strip.waterOf(section) + units <= WATER_LIMIT ? FINE : denied(LIMIT_REACHED, WATER_LIMIT);
        }

        private int judgeTerm(int section, int term, boolean due) {
            if (!strip.has(section)) {
                return NO_SUCH_INDEX;
            }
            if (!Strip.isTerm(term)) {
                return BAD_ARGUMENT;
            }
            return strip.bears(section, term) == due ? FINE : denied(TERM_STATE, strip.termCountOf(section));
        }

        int judgeFold(int layer) {
            if (layer < 0 || layer > pile.folded) {
                return NO_SUCH_INDEX;
            }
            if (pile.folded >= strip.count) {
                return denied(ALL_FOLDED, strip.count);
            }
            int crossed = pile.creaseCrossedAt(layer);
            return crossed == NONE ? FINE : denied(CREASES_CROSS, crossed);
        }

        private int judgePipe(int from, int to, int width) {
            if (!strip.has(from) || !strip.has(to)) {
                return NO_SUCH_INDEX;
            }
            if (from == to || width < 1 || width > CAPACITY_LIMIT) {
                return BAD_ARGUMENT;
            }
            return pipes.count < PIPE_LIMIT ? FINE : denied(LIMIT_REACHED, PIPE_LIMIT);
        }

        private int judgeBroken(int pipe, boolean due) {
            if (!pipes.has(pipe)) {
                return NO_SUCH_INDEX;
            }
            return pipes.brokenAt(pipe) == due ? FINE : denied(PIPE_STATE, pipes.widthOf(pipe));
        }

        int judgeEnds() {
            return strip.count >= 2 ? FINE : denied(TOO_FEW_SECTIONS, strip.count);
        }

        int apply(int kind, int first, int second, int third, FlowSearch flows) {
            switch (kind) {
                case ADD:
                    return strip.append();
                case POUR:
                    return strip.receivePoured(first, second);
                case TAG:
                    return strip.giveTerm(first, second);
                case UNTAG:
                    return strip.takeTerm(first, second);
                case FOLD:
                    return pile.insert(first);
                case OPEN:
                    return pile.removeLast();
                case PIPE:
                    return pipes.append(first, second, third);
                case CUT:
                    return pipes.remove(first);
                case BREAK:
                    return pipes.setBroken(first, true);
                case MEND:
                    return pipes.setBroken(first, false);
                case DRAIN:
                    return moveAlongPipes(flows.greatest(pipes, strip.count, NONE));
                case SEEP:
                    return moveDownPile();
                default:
                    return NONE;
            }
        }

        private int moveAlongPipes(int flow) {
            int leaving = Math.min(strip.waterOf(0), flow);
            int leaking = Math.min(pipes.brokenCount(), leaving);
            strip.give(0, leaving);
            leaking += strip.receive(strip.count - 1, leaving - leaking);
            strip.leak(leaking);
            return leaving;
        }

        private int moveDownPile() {
            int leaking = 0;
            for (int layer = pile.folded - 1; layer >= 0; layer--) {
                int section = pile.sectionAt(layer);
                int excess = strip.waterOf(section) - SEEP_LEVEL;
                if (excess > 0) {
                    strip.give(section, excess);
                    leaking += layer > 0 ? strip.receive(pile.sectionAt(layer - 1), excess) : excess;
                }
            }
            strip.leak(leaking);
            return leaking;
        }
    }

    /** Finds greatest flows and smallest cuts, with rows that are used again by every call. */
    private static final class FlowSearch {
        // Each way that augments a flow adds at least one unit, and no flow exceeds all capacities together.
        private static final int WAY_LIMIT = PIPE_LIMIT * CAPACITY_LIMIT;

        final int[] spare;
        final int[] reachedFrom;
        final int[] queue;

        FlowSearch() {
            spare = new int[SECTION_LIMIT * SECTION_LIMIT];
            reachedFrom = new int[SECTION_LIMIT];
            queue = new int[SECTION_LIMIT];
        }

        /** Takes the pipe with the index skipped for a broken one. */
        int greatest(Pipes pipes, int sections, int skipped) {
            if (sections < 2 || sections > SECTION_LIMIT) {
                return 0;
            }
            openPipes(pipes, skipped);
            int flow = 0;
            for (int way = 0; way < WAY_LIMIT; way++) {
                if (!reachesLast(sections)) {
                    break;
                }
                flow += augment(sections - 1);
            }
            return flow;
        }

        private void openPipes(Pipes pipes, int skipped) {
            for (int cell = 0; cell < spare.length; cell++) {
                spare[cell] = 0;
            }
            for (int pipe = 0; pipe < pipes.count; pipe++) {
                if (pipe != skipped && !pipes.brokenAt(pipe)) {
                    addSpare(pipes.startOf(pipe), pipes.endOf(pipe), pipes.widthOf(pipe));
                }
            }
        }

        private static boolean inGrid(int from, int to) {
            return from >= 0 && from < SECTION_LIMIT && to >= 0 && to < SECTION_LIMIT;
        }

        private void addSpare(int from, int to, int units) {
            if (inGrid(from, to)) {
                spare[from * SECTION_LIMIT + to] += units;
            }
        }

        private int spareOf(int from, int to) {
            return inGrid(from, to) ? spare[from * SECTION_LIMIT + to] : 0;
        }

        private boolean reachesLast(int sections) {
            for (int section = 0; section < SECTION_LIMIT; section++) {
                reachedFrom[section] = NONE;
            }
            queue[0] = 0;
            int queued = 1;
            for (int head = 0; head < queued && head < SECTION_LIMIT; head++) {
                int here = queue[head];
                for (int next = 1; next < sections && next < SECTION_LIMIT; next++) {
                    if (reachedFrom[next] == NONE && spareOf(here, next) > 0 && queued < SECTION_LIMIT) {
                        reachedFrom[next] = here;
                        queue[queued] = next;
                        queued++;
                    }
                }
            }
            return previousOf(sections - 1) != NONE;
        }

        private int previousOf(int section) {
            return section >= 0 && section < SECTION_LIMIT ? reachedFrom[section] : NONE;
        }

        private int augment(int last) {
            int least = WAY_LIMIT;
            int section = last;
            for (int step = 0; step < SECTION_LIMIT && section > 0; step++) {
                int previous = previousOf(section);
                least = Math.min(least, spareOf(previous, section));
                section = previous;
            }
            section = last;
            for (int step = 0; step < SECTION_LIMIT && section > 0; step++) {
                int previous = previousOf(section);
                addSpare(previous, section, -least);
                addSpare(section, previous, least);
                section = previous;
            }
            return least;
        }

        int smallest(Pipes pipes, int sections) {
            if (sections < 2 || sections > SECTION_LIMIT) {
                return 0;
            }
            int least = WAY_LIMIT;
            // Odd numbers below the last section's bit: the sets with the first section and without the last one.
            for (int set = 1; set < 1 << (sections - 1); set += 2) {
                least = Math.min(least, cutSize(pipes, set));
            }
            return least;
        }

        private static int cutSize(Pipes pipes, int set) {
            int size = 0;
            for (int pipe = 0; pipe < pipes.count; pipe++) {
                boolean leads = contains(set, pipes.startOf(pipe)) && !contains(set, pipes.endOf(pipe));
                if (leads && !pipes.brokenAt(pipe)) {
                    size += pipes.widthOf(pipe);
                }
            }
            return size;
        }

        private static boolean contains(int set, int section) {
            return (set >> section & 1) != 0;
        }
    }

    /** Counts the foldings that a pile can be completed to, in two ways that share nothing but when spans cross. */
    private static final class FoldingSearch {
        final Pile trial;
        // The layers of the order that is tried; a section that has none yet counts as lying above all that have one.
        final int[] placed;

        FoldingSearch() {
            trial = new Pile();
            placed = new int[SECTION_LIMIT];
        }

        int countByFolding(Pile pile, int total) {
            trial.copyFrom(pile);
            return foldRest(trial.folded, Math.min(total, SECTION_LIMIT));
        }

        private int foldRest(int folded, int total) {
            if (folded >= total) {
                return 1;
            }
            int found = 0;
            for (int layer = 0; layer <= folded; layer++) {
                if (trial.creaseCrossedAt(layer) == NONE) {
                    found += foldInto(layer, folded, total);
                }
            }
            return found;
        }

        private int foldInto(int layer, int folded, int total) {
            trial.insert(layer);
            int found = foldRest(folded + 1, total);
            trial.removeLast();
            return found;
        }

        int countByOrders(Pile pile, int total) {
            trial.copyFrom(pile);
            int sections = Math.min(total, SECTION_LIMIT);
            for (int section = 0; section < SECTION_LIMIT; section++) {
                placed[section] = sections;
            }
            return placeRest(0, sections);
        }

        private int placeRest(int layer, int total) {
            if (layer >= total) {
                return 1;
            }
            int found = 0;
            for (int section = 0; section < total && section < SECTION_LIMIT; section++) {
                if (placed[section] == total && isNextOfPile(section, total)) {
                    placed[section] = layer;
                    found += goOnAbove(section, layer, total);
                    placed[section] = total;
                }
            }
            return found;
        }

        // An order that crosses already is given up here: whatever comes above, it stays crossed.
        private int goOnAbove(int section, int layer, int total) {
            boolean crosses = spanCrosses(section - 1, total) || spanCrosses(section, total);
            return crosses ? 0 : placeRest(layer + 1, total);
        }

        private boolean isNextOfPile(int section, int total) {
            int layer = trial.layerHolding(section);
            for (int other = 0; other < trial.folded && other < SECTION_LIMIT; other++) {
                if (trial.layerHolding(other) < layer && placed[other] == total) {
                    return false;
                }
            }
            return true;
        }

        private int placeOf(int section, int total) {
            return section >= 0 && section < total && section < SECTION_LIMIT ? placed[section] : total;
        }

        private boolean spanCrosses(int crease, int total) {
            int from = placeOf(crease, total);
            int to = placeOf(crease + 1, total);
            if (from == total || to == total) {
                return false;
            }
            for (int other = crease % 2; other + 1 < total; other += 2) {
                boolean crosses = Pile.spansCross(from, to, placeOf(other, total), placeOf(other + 1, total));
                if (other != crease && crosses) {
                    return true;
                }
            }
            return false;
        }
    }

    /** The states before the latest changes, in a ring, so that the oldest one gives way to the newest one. */
    private static final class History {
        final State[] kept;
        int next;
        int count;

        History() {
            kept = new State[UNDO_LIMIT];
            for (int slot = 0; slot < UNDO_LIMIT; slot++) {
                kept[slot] = new State();
            }
        }

        private State stateAt(int slot) {
            return slot >= 0 && slot < kept.length ? kept[slot] : null;
        }

        void keep(State state) {
            State slot = stateAt(next);
            if (slot != null) {
                slot.copyFrom(state);
            }
            next = (next + 1) % UNDO_LIMIT;
            count = Math.min(count + 1, UNDO_LIMIT);
        }

        void takeBack(State state) {
            if (count > 0) {
                next = (next + UNDO_LIMIT - 1) % UNDO_LIMIT;
                count--;
                State slot = stateAt(next);
                if (slot != null) {
                    state.copyFrom(slot);
                }
            }
        }

        void forget() {
            count = 0;
        }
    }

    /** A row of characters with a greatest length. */
    private static final class Row {
        final char[] signs;
        int length;

        Row(int limit) {
            signs = new char[Math.max(limit, 0)];
        }

        boolean isFull() {
            return length >= signs.length;
        }

        void put(char sign) {
            if (length < signs.length) {
                signs[length] = sign;
                length++;
            }
        }

        void putNumber(int number) {
            if (number > DIGIT_LIMIT) {
                put((char) ('0' + number / 10 % 10));
            }
            put((char) ('0' + number % 10));
        }

        /** Answers the character 0, which no grammar knows, where the row has ended. */
        char at(int index) {
            return index >= 0 && index < length ? signs[index] : 0;
        }

        void empty() {
            length = 0;
        }
    }

    /**
     * Reads a search text and works out what it stands for, as a set of bits. It asks for all sections at once or for
     * a single one, which is then the only bit, so that both follow the same grammar.
     */
    private static final class SearchReader {
        final int[] bearers;
        int everything;
        int position;
        int fault;

        SearchReader() {
            bearers = new int[TERM_COUNT];
        }

        void askForAll(Strip strip) {
            everything = (1 << strip.count) - 1;
            for (int term = 0; term < TERM_COUNT; term++) {
                bearers[term] = strip.bearersOf(FIRST_TERM + term);
            }
        }

        void askForOne(Strip strip, int section) {
            everything = 1;
            for (int term = 0; term < TERM_COUNT; term++) {
                bearers[term] = strip.bears(section, FIRST_TERM + term) ? 1 : 0;
            }
        }

        int read(Row text) {
            position = 0;
            fault = NONE;
            int found = readSum(text, 0);
            if (fault == NONE && position < text.length) {
                fault = position;
            }
            return found;
        }

        private int readSum(Row text, int depth) {
            int found = readProduct(text, depth);
            for (int turn = 0; turn < TEXT_LIMIT; turn++) {
                if (fault != NONE || text.at(position) != '+') {
                    break;
                }
                position++;
                found |= readProduct(text, depth);
            }
            return found;
        }

        private int readProduct(Row text, int depth) {
            int found = readFactor(text, depth);
            for (int turn = 0; turn < TEXT_LIMIT; turn++) {
                if (fault != NONE || !startsFactor(text.at(position))) {
                    break;
                }
                found &= readFactor(text, depth);
            }
            return found;
        }

        private static boolean startsFactor(char sign) {
            return sign == '-' || sign == '(' || Strip.isTerm(sign);
        }

        // Signs are counted, not descended into: a text may consist of nearly nothing else.
        private int readFactor(Row text, int depth) {
            boolean negated = false;
            for (int turn = 0; turn < TEXT_LIMIT && text.at(position) == '-'; turn++) {
                negated = !negated;
                position++;
            }
            int found = readPlainFactor(text, depth);
            return negated ? everything & ~found : found;
        }

        private int readPlainFactor(Row text, int depth) {
            char sign = text.at(position);
            if (Strip.isTerm(sign)) {
                position++;
                return bearersOf(sign);
            }
            if (sign != '(' || depth >= OPEN_LIMIT) {
                fault = position;
                return 0;
            }
            position++;
            int found = readSum(text, depth + 1);
            if (fault == NONE && text.at(position) != ')') {
                fault = position;
            }
            position++;
            return found;
        }

        private int bearersOf(int term) {
            int index = term - FIRST_TERM;
            return index >= 0 && index < bearers.length ? bearers[index] : 0;
        }
    }

    /** Reads a text of commands into rows, so that none is executed before all of them are understood. */
    private static final class CommandReader {
        final int[] kinds;
        final int[] operands;
        int count;
        int fault;
        int position;
        int operandsRead;

        CommandReader() {
            kinds = new int[TEXT_LIMIT];
            operands = new int[TEXT_LIMIT * OPERAND_LIMIT];
        }

        int kindOf(int command) {
            return command >= 0 && command < count && command < TEXT_LIMIT ? kinds[command] : NONE;
        }

        int operandOf(int command, int place) {
            int index = command * OPERAND_LIMIT + place;
            return index >= 0 && index < operands.length ? operands[index] : 0;
        }

        void read(Row text) {
            count = 0;
            fault = NONE;
            int start = 0;
            // Every command takes characters, so the limit of the text is more than enough for the commands.
            for (int turn = 0; turn < TEXT_LIMIT; turn++) {
                readCommand(text, start);
                if (fault != NONE || position >= text.length) {
                    return;
                }
                if (text.at(position) != ';') {
                    fault = position;
                    return;
                }
                start = position + 1;
            }
        }

        // At most one kind fits; if none does, the one that fits furthest tells which character can't continue.
        private void readCommand(Row text, int start) {
            int furthest = start;
            for (int kind = 0; kind < COMMAND_KINDS; kind++) {
                if (follows(text, start, shapeOf(kind))) {
                    append(kind);
                    return;
                }
                furthest = Math.max(furthest, position);
            }
            fault = furthest;
        }

        private void append(int kind) {
            if (count < TEXT_LIMIT) {
                kinds[count] = kind;
                count++;
            }
        }

        /** D is a digit, T a term and N a number of one or two digits; each gives the command an operand. */
        private static String shapeOf(int kind) {
            switch (kind) {
                case ADD:
                    return "add";
                case POUR:
                    return "pour D N";
                case TAG:
                    return "tag DT";
                case UNTAG:
                    return "untag DT";
                case FOLD:
                    return "fold D";
                case OPEN:
                    return "open";
                case PIPE:
                    return "pipe D>D N";
                case CUT:
                    return "cut D";
                case BREAK:
                    return "break D";
                case MEND:
                    return "mend D";
                case DRAIN:
                    return "drain";
                default:
                    return "seep";
            }
        }

        private boolean follows(Row text, int start, String shape) {
            position = start;
            operandsRead = 0;
            for (int place = 0; place < shape.length(); place++) {
                if (!followsSign(text, shape.charAt(place))) {
                    return false;
                }
            }
            return true;
        }

        private boolean followsSign(Row text, char wanted) {
            char given = text.at(position);
            if (!fits(given, wanted)) {
                return false;
            }
            position++;
            if (wanted == 'D') {
                takeOperand(given - '0');
            } else if (wanted == 'T') {
                takeOperand(given);
            } else if (wanted == 'N') {
                takeOperand(numberFrom(text, given));
            }
            return true;
        }

        private static boolean fits(char given, char wanted) {
            if (wanted == 'D' || wanted == 'N') {
                return isDigit(given);
            }
            return wanted == 'T' ? Strip.isTerm(given) : given == wanted;
        }

        private int numberFrom(Row text, char first) {
            char second = text.at(position);
            if (!isDigit(second)) {
                return first - '0';
            }
            position++;
            return (first - '0') * 10 + (second - '0');
        }

        private void takeOperand(int value) {
            int index = count * OPERAND_LIMIT + operandsRead;
            if (index >= 0 && index < operands.length) {
                operands[index] = value;
            }
            operandsRead++;
        }

        private static boolean isDigit(char sign) {
            return sign >= '0' && sign <= '9';
        }
    }
}
