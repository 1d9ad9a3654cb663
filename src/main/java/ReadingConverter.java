import java.util.Arrays;

/**
 * A converter from readings to written words: a dictionary, connection costs between word classes,
 * an input with constraints at its gaps, and the cheapest paths through it in order.
 */
public final class ReadingConverter {
    public static final int INVALID_ARGUMENT = -1;
    public static final int INVALID_STATE = -2;
    public static final int LIMIT_REACHED = -3;
    public static final int NONE = -9;

    private static final int FIRST_ERROR_OFFSET = -10;
    private static final int NO_OFFSET = -1;

    private static final int MAX_TEXT = 20;
    private static final int MAX_CODE = 255;
    private static final int MAX_ENTRIES = 20;
    private static final int MAX_READING = 6;
    private static final int MAX_INPUT = 16;
    private static final int MAX_WORD = 99;
    private static final int MAX_COST = 99;
    private static final int MAX_UNKNOWN_COST = 200;
    private static final int FIRST_UNKNOWN_COST = 100;
    private static final int MAX_USES = 9;
    private static final int SAVED_PER_USE = 3;
    private static final int MAX_RANKS = 20;
    private static final int MAX_EDITS = 6;
    private static final int MAX_COUNT = 1000000000;

    private static final int MAX_ENTRY_CLASS = 4;
    private static final int UNKNOWN_CLASS = 5;
    private static final int BOUNDARY = 6;
    private static final int CLASSES = 7;

    private static final int FREE = 0;
    private static final int FORCED = 1;
    private static final int FORBIDDEN = 2;

    private static final int UNKNOWN_ENTRY = -5;
    private static final int GAPS = MAX_INPUT + 1;
    private static final int MAX_AT_GAP = MAX_ENTRIES + 1;
    private static final int STATES = GAPS * CLASSES;

    /** Stands for "no way"; far above the dearest path, and small enough that sums of a few stay in an int. */
    private static final int FAR = 1000000;

    private final Text text;
    private final Model model;
    private final History history;
    private final Lattice lattice;
    private final Ranking ranking;

    /** Many questions follow one edit, so the paths are worked out once for all of them. */
    private boolean pathsAreStale;

    public ReadingConverter() {
        Model first = new Model();
        Lattice segments = new Lattice(first);
        text = new Text();
        model = first;
        history = new History();
        lattice = segments;
        ranking = new Ranking(first, segments);
        pathsAreStale = true;
    }

    // ---- text buffer

    public int appendCharacter(int character) {
        if (isOutside(character, 0, MAX_CODE)) {
            return INVALID_ARGUMENT;
        }
        if (text.length >= MAX_TEXT) {
            return LIMIT_REACHED;
        }
        text.push(character);
        return text.length;
    }

    public int clearText() {
        int before = text.length;
        text.length = 0;
        return before;
    }

    // ---- dictionary

    public int addEntry(int word, int itsClass, int cost) {
        if (isOutside(word, 0, MAX_WORD) || isOutside(itsClass, 0, MAX_ENTRY_CLASS)
                || isOutside(cost, 0, MAX_COST)) {
            return INVALID_ARGUMENT;
        }
        Dictionary dictionary = model.dictionary;
        if (dictionary.holds(text, word, itsClass)) {
            return INVALID_STATE;
        }
        if (dictionary.size >= MAX_ENTRIES) {
            return LIMIT_REACHED;
        }
        int offset = text.readingError();
        if (offset != NO_OFFSET) {
            return FIRST_ERROR_OFFSET - offset;
        }
        beginEdit();
        dictionary.append(text, word, itsClass, cost);
        text.length = 0;
        return dictionary.size - 1;
    }

    public int removeEntry(int entry) {
        if (isNoEntry(entry)) {
            return INVALID_ARGUMENT;
        }
        beginEdit();
        model.dictionary.drop(entry);
        return model.dictionary.size;
    }

    public int entryCount() {
        return model.dictionary.size;
    }

    public int wordOf(int entry) {
        if (isNoEntry(entry)) {
            return INVALID_ARGUMENT;
        }
        return model.dictionary.words[entry];
    }

    public int costOf(int entry) {
        if (isNoEntry(entry)) {
            return INVALID_ARGUMENT;
        }
        return model.dictionary.presentCost(entry);
    }

    public int useCount(int entry) {
        if (isNoEntry(entry)) {
            return INVALID_ARGUMENT;
        }
        return model.dictionary.uses[entry];
    }

    public int entriesWithPrefix() {
        Dictionary dictionary = model.dictionary;
        int found = 0;
        for (int entry = 0; entry < dictionary.size; entry++) {
            if (dictionary.beginsWith(entry, text)) {
                found++;
            }
        }
        return found;
    }

    // ---- costs

    public int setConnection(int left, int right, int cost) {
        if (isOutside(left, 0, BOUNDARY) || isOutside(right, 0, BOUNDARY) || isOutside(cost, 0, MAX_COST)) {
            return INVALID_ARGUMENT;
        }
        beginEdit();
        int before = model.connection(left, right);
        model.connections[left * CLASSES + right] = cost;
        return before;
    }

    public int setUnknownCost(int cost) {
        if (isOutside(cost, 0, MAX_UNKNOWN_COST)) {
            return INVALID_ARGUMENT;
        }
        beginEdit();
        int before = model.unknownCost;
        model.unknownCost = cost;
        return before;
    }

    // ---- input

    public int setInput() {
        int offset = text.firstError(MAX_INPUT);
        if (offset != NO_OFFSET) {
            return FIRST_ERROR_OFFSET - offset;
        }
        beginEdit();
        model.takeInput(text);
        text.length = 0;
        return model.inputSize;
    }

    public int inputLength() {
        return model.inputSize;
    }

    public int setConstraint(int gap, int constraint) {
        if (isNoInnerGap(gap) || isOutside(constraint, FREE, FORBIDDEN)) {
            return INVALID_ARGUMENT;
        }
        beginEdit();
        int before = model.constraints[gap];
        model.constraints[gap] = constraint;
        return before;
    }

    public int segmentsAt(int gap) {
        if (isNoGap(gap)) {
            return INVALID_ARGUMENT;
        }
        int found = 0;
        for (int entry = 0; entry < model.dictionary.size; entry++) {
            if (model.standsAt(entry, gap)) {
                found++;
            }
        }
        return found;
    }

    // ---- paths

    public int pathCount() {
        return presentPaths().allPaths();
    }

    public int pathCost(int rank) {
        if (isNoRank(rank)) {
            return INVALID_ARGUMENT;
        }
        Ranking paths = presentPaths();
        return paths.hasRank(rank) ? paths.costAtRank(rank) : NONE;
    }

    public int segmentCount(int rank) {
        if (isNoRank(rank)) {
            return INVALID_ARGUMENT;
        }
        Ranking paths = presentPaths();
        if (!paths.hasRank(rank)) {
            return NONE;
        }
        paths.walk(rank);
        return paths.trailLength;
    }

    public int segmentStart(int rank, int index) {
        if (isNoRank(rank) || index < 0) {
            return INVALID_ARGUMENT;
        }
        return findSegment(rank, index) ? ranking.trailStart[index] : NONE;
    }

    public int segmentEntry(int rank, int index) {
        if (isNoRank(rank) || index < 0) {
            return INVALID_ARGUMENT;
        }
        return findSegment(rank, index) ? ranking.trailEntry[index] : NONE;
    }

    public int bestThrough(int entry, int start) {
        if (isNoEntry(entry) || isNoGap(start)) {
            return INVALID_ARGUMENT;
        }
        int cost = presentPaths().leastThroughEntry(entry, start);
        return cost < FAR ? cost : NONE;
    }

    public int boundaryInBest(int gap) {
        if (isNoInnerGap(gap)) {
            return INVALID_ARGUMENT;
        }
        Ranking paths = presentPaths();
        int ending = paths.leastEndingAt(gap);
        int crossing = paths.leastCrossing(gap);
        if (ending >= FAR && crossing >= FAR) {
            return NONE;
        }
        if (ending == crossing) {
            return 1;
        }
        return ending < crossing ? 2 : 0;
    }

    public int bestCount() {
        return presentPaths().bestPaths();
    }

    // ---- learning and undo

    public int choose(int rank) {
        if (isNoRank(rank)) {
            return INVALID_ARGUMENT;
        }
        Ranking paths = presentPaths();
        if (!paths.hasRank(rank)) {
            return INVALID_STATE;
        }
        paths.walk(rank);
        beginEdit();
        int increased = 0;
        for (int entry = 0; entry < model.dictionary.size; entry++) {
            if (paths.trailHolds(entry) && model.dictionary.learn(entry)) {
                increased++;
            }
        }
        return increased;
    }

    public int forget() {
        int sum = model.dictionary.sumOfUses();
        if (sum == 0) {
            return INVALID_STATE;
        }
        beginEdit();
        Arrays.fill(model.dictionary.uses, 0);
        return sum;
    }

    public int undo() {
        if (history.size == 0) {
            return INVALID_STATE;
        }
        history.bringBack(model);
        pathsAreStale = true;
        return history.size;
    }

    // ---- what the calls share

    private void beginEdit() {
        history.keep(model);
        pathsAreStale = true;
    }

    private Ranking presentPaths() {
        if (pathsAreStale) {
            lattice.build();
            ranking.build();
            pathsAreStale = false;
        }
        return ranking;
    }

    /** Leaves the path in the ranking's trail if it has a segment with this index. */
    private boolean findSegment(int rank, int index) {
        Ranking paths = presentPaths();
        if (!paths.hasRank(rank)) {
            return false;
        }
        paths.walk(rank);
        return index < paths.trailLength;
    }

    private boolean isNoEntry(int entry) {
        return isOutside(entry, 0, model.dictionary.size - 1);
    }

    private boolean isNoGap(int gap) {
        return isOutside(gap, 0, model.inputSize);
    }

    private boolean isNoInnerGap(int gap) {
        return isOutside(gap, 1, model.inputSize - 1);
    }

    private static boolean isNoRank(int rank) {
        return isOutside(rank, 0, MAX_RANKS - 1);
    }

    private static boolean isOutside(int value, int least, int greatest) {
        return value < least || value > greatest;
    }

    /** The text buffer. */
    private static final class Text {
        final int[] codes = new int[MAX_TEXT];
        int length;

        void push(int code) {
            if (length < MAX_TEXT) {
                codes[length] = code;
                length++;
            }
        }

        int readingError() {
            return length == 0 ? 0 : firstError(MAX_READING);
        }

        /** The offset of the first character that is no letter or lies beyond the limit. */
        int firstError(int limit) {
            for (int i = 0; i < length; i++) {
                if (i >= limit || isOutside(codes[i], 'a', 'z')) {
                    return i;
                }
            }
            return NO_OFFSET;
        }
    }

    /** The entries; the readings lie behind one another, MAX_READING places for each. */
    private static final class Dictionary {
        final int[] letters = new int[MAX_ENTRIES * MAX_READING];
        final int[] lengths = new int[MAX_ENTRIES];
        final int[] words = new int[MAX_ENTRIES];
        final int[] classes = new int[MAX_ENTRIES];
        final int[] baseCosts = new int[MAX_ENTRIES];
        final int[] uses = new int[MAX_ENTRIES];
        int size;

        void copyFrom(Dictionary other) {
            System.arraycopy(other.letters, 0, letters, 0, letters.length);
            System.arraycopy(other.lengths, 0, lengths, 0, MAX_ENTRIES);
            System.arraycopy(other.words, 0, words, 0, MAX_ENTRIES);
            System.arraycopy(other.classes, 0, classes, 0, MAX_ENTRIES);
            System.arraycopy(other.baseCosts, 0, baseCosts, 0, MAX_ENTRIES);
            System.arraycopy(other.uses, 0, uses, 0, MAX_ENTRIES);
            size = other.size;
        }

        /** The text must be a reading without error, and there must be room. */
        void append(Text reading, int word, int itsClass, int cost) {
            int entry = size;
            if (entry >= MAX_ENTRIES || reading.length > MAX_READING) {
                return;
            }
            System.arraycopy(reading.codes, 0, letters, entry * MAX_READING, reading.length);
            lengths[entry] = reading.length;
            words[entry] = word;
            classes[entry] = itsClass;
            baseCosts[entry] = cost;
            uses[entry] = 0;
            size++;
        }

        void drop(int entry) {
            for (int i = entry; i + 1 < size; i++) {
                moveDown(i + 1);
            }
            size--;
        }

        private void moveDown(int entry) {
            int to = entry - 1;
            System.arraycopy(letters, entry * MAX_READING, letters, to * MAX_READING, MAX_READING);
            lengths[to] = lengths[entry];
            words[to] = words[entry];
            classes[to] = classes[entry];
            baseCosts[to] = baseCosts[entry];
            uses[to] = uses[entry];
        }

        boolean beginsWith(int entry, Text prefix) {
            if (prefix.length > lengths[entry]) {
                return false;
            }
            for (int i = 0; i < prefix.length; i++) {
                if (letters[entry * MAX_READING + i] != prefix.codes[i]) {
                    return false;
                }
            }
            return true;
        }

        boolean holds(Text reading, int word, int itsClass) {
            for (int entry = 0; entry < size; entry++) {
                if (words[entry] == word && classes[entry] == itsClass
                        && lengths[entry] == reading.length && beginsWith(entry, reading)) {
                    return true;
                }
            }
            return false;
        }

        int presentCost(int entry) {
            return Math.max(0, baseCosts[entry] - SAVED_PER_USE * uses[entry]);
        }

        /** Whether the use count was still below its limit. */
        boolean learn(int entry) {
            if (uses[entry] >= MAX_USES) {
                return false;
            }
            uses[entry]++;
            return true;
        }

        int sumOfUses() {
            int sum = 0;
            for (int entry = 0; entry < size; entry++) {
                sum += uses[entry];
            }
            return sum;
        }
    }

    /** All that edits change and undo brings back. */
    private static final class Model {
        final Dictionary dictionary = new Dictionary();
        final int[] connections = new int[CLASSES * CLASSES];
        final int[] input = new int[MAX_INPUT];
        final int[] constraints = new int[GAPS];
        int unknownCost = FIRST_UNKNOWN_COST;
        int inputSize;

        void copyFrom(Model other) {
            dictionary.copyFrom(other.dictionary);
            System.arraycopy(other.connections, 0, connections, 0, connections.length);
            System.arraycopy(other.input, 0, input, 0, MAX_INPUT);
            System.arraycopy(other.constraints, 0, constraints, 0, GAPS);
            unknownCost = other.unknownCost;
            inputSize = other.inputSize;
        }

        /** The text must be an input without error. */
        void takeInput(Text source) {
            if (source.length > MAX_INPUT) {
                return;
            }
            System.arraycopy(source.codes, 0, input, 0, source.length);
            inputSize = source.length;
            Arrays.fill(constraints, FREE);
        }

        int connection(int left, int right) {
            return connections[left * CLASSES + right];
        }

        boolean standsAt(int entry, int gap) {
            int length = dictionary.lengths[entry];
            if (gap + length > inputSize) {
                return false;
            }
            for (int i = 0; i < length; i++) {
                if (dictionary.letters[entry * MAX_READING + i] != input[gap + i]) {
                    return false;
                }
            }
            return true;
        }

        boolean allowsSegment(int start, int end) {
            if (constraints[end] == FORBIDDEN) {
                return false;
            }
            for (int gap = start + 1; gap < end; gap++) {
                if (constraints[gap] == FORCED) {
                    return false;
                }
            }
            return true;
        }
    }

    /** The models before the latest edits, in a ring whose rows are used again. */
    private static final class History {
        final Model[] ring = new Model[MAX_EDITS];
        int next;
        int size;

        History() {
            for (int i = 0; i < MAX_EDITS; i++) {
                ring[i] = new Model();
            }
        }

        void keep(Model present) {
            Model place = ring[next];
            if (place == null) {
                return;
            }
            place.copyFrom(present);
            next = next == MAX_EDITS - 1 ? 0 : next + 1;
            size = Math.min(size + 1, MAX_EDITS);
        }

        void bringBack(Model present) {
            int latest = next == 0 ? MAX_EDITS - 1 : next - 1;
            Model place = ring[latest];
            if (place == null || size == 0) {
                return;
            }
            present.copyFrom(place);
            next = latest;
            size--;
        }
    }

    /**
     * The segments that the constraints allow. Those that start at one gap lie behind one another,
     * in the order in which paths of the same cost are compared: slot gap * MAX_AT_GAP comes first.
     */
    private static final class Lattice {
        private final Model model;
        private final int[] byLength = new int[MAX_ENTRIES];
        final int[] slotsAt = new int[GAPS];
        final int[] entries = new int[GAPS * MAX_AT_GAP];
        final int[] ends = new int[GAPS * MAX_AT_GAP];
        final int[] classes = new int[GAPS * MAX_AT_GAP];
        final int[] costs = new int[GAPS * MAX_AT_GAP];

        Lattice(Model model) {
            this.model = model;
        }

        void build() {
            sortByLength();
            Arrays.fill(slotsAt, 0);
            for (int gap = 0; gap < model.inputSize; gap++) {
                addEntriesAt(gap);
                addSlot(gap, gap + 1, UNKNOWN_ENTRY, UNKNOWN_CLASS, model.unknownCost);
            }
        }

        /** The longest reading first, and the smaller number first among equal lengths. */
        private void sortByLength() {
            Dictionary dictionary = model.dictionary;
            int placed = 0;
            for (int length = MAX_READING; length > 0; length--) {
                for (int entry = 0; entry < dictionary.size; entry++) {
                    if (dictionary.lengths[entry] == length && placed < MAX_ENTRIES) {
                        byLength[placed] = entry;
                        placed++;
                    }
                }
            }
        }

        private void addEntriesAt(int gap) {
            Dictionary dictionary = model.dictionary;
            for (int i = 0; i < dictionary.size; i++) {
                int entry = byLength[i];
                if (model.standsAt(entry, gap)) {
                    addSlot(gap, gap + dictionary.lengths[entry], entry, dictionary.classes[entry],
                            dictionary.presentCost(entry));
                }
            }
        }

        private void addSlot(int gap, int end, int entry, int itsClass, int cost) {
            if (slotsAt[gap] >= MAX_AT_GAP || !model.allowsSegment(gap, end)) {
                return;
            }
            int slot = gap * MAX_AT_GAP + slotsAt[gap];
            entries[slot] = entry;
            ends[slot] = end;
            classes[slot] = itsClass;
            costs[slot] = cost;
            slotsAt[gap]++;
        }

        /** The state that a path is in behind the segment: its end and its class decide all that follows. */
        int stateBehind(int slot) {
            return ends[slot] * CLASSES + classes[slot];
        }
    }

    /**
     * The cheapest paths. A state is a gap together with the class of the segment that ends there
     * (BOUNDARY at gap 0). For each state that a path can reach, the best ways from it to the end of
     * the input are listed in order; each is a first slot and the place of the rest in the list of
     * the state behind that slot.
     */
    private static final class Ranking {
        private final Model model;
        private final Lattice lattice;
        private final int[] leastTo = new int[STATES];
        private final int[] bestWays = new int[STATES];
        private final int[] listSizes = new int[STATES];
        private final int[] listCosts = new int[STATES * MAX_RANKS];
        private final int[] listSlots = new int[STATES * MAX_RANKS];
        private final int[] listRests = new int[STATES * MAX_RANKS];
        private final int[] headCosts = new int[MAX_AT_GAP];
        private final int[] headRests = new int[MAX_AT_GAP];
        private final int[] countsFrom = new int[GAPS];
        final int[] trailStart = new int[MAX_INPUT];
        final int[] trailEntry = new int[MAX_INPUT];
        int trailLength;

        Ranking(Model model, Lattice lattice) {
            this.model = model;
            this.lattice = lattice;
        }

        void build() {
            findLeastTo();
            countPaths();
            listEnds();
            for (int gap = model.inputSize - 1; gap >= 0; gap--) {
                for (int itsClass = 0; itsClass < CLASSES; itsClass++) {
                    listState(gap, itsClass);
                }
            }
        }

        // ---- from the first gap onwards

        private void findLeastTo() {
            Arrays.fill(leastTo, FAR);
            leastTo[BOUNDARY] = 0;
            for (int gap = 0; gap < model.inputSize; gap++) {
                for (int i = 0; i < lattice.slotsAt[gap]; i++) {
                    int slot = gap * MAX_AT_GAP + i;
                    int behind = lattice.stateBehind(slot);
                    int cost = leastBefore(gap, lattice.classes[slot]) + lattice.costs[slot];
                    leastTo[behind] = Math.min(leastTo[behind], cost);
                }
            }
        }

        /** The least cost up to the gap, with the connection to a segment of this class that starts there. */
        private int leastBefore(int gap, int itsClass) {
            int least = FAR;
            for (int before = 0; before < CLASSES; before++) {
                int cost = leastTo[gap * CLASSES + before] + model.connection(before, itsClass);
                least = Math.min(least, cost);
            }
            return least;
        }

        // ---- from the last gap backwards

        private void countPaths() {
            countsFrom[model.inputSize] = 1;
            for (int gap = model.inputSize - 1; gap >= 0; gap--) {
                int count = 0;
                for (int i = 0; i < lattice.slotsAt[gap]; i++) {
                    count = cappedSum(count, countsFrom[lattice.ends[gap * MAX_AT_GAP + i]]);
                }
                countsFrom[gap] = count;
            }
        }

        /** Two counts under the cap fit into an int together. */
        private static int cappedSum(int a, int b) {
            return Math.min(a + b, MAX_COUNT);
        }

        private void listEnds() {
            Arrays.fill(listSizes, 0);
            for (int itsClass = 0; itsClass < CLASSES; itsClass++) {
                int state = model.inputSize * CLASSES + itsClass;
                if (leastTo[state] < FAR) {
                    listSizes[state] = 1;
                    listCosts[state * MAX_RANKS] = model.connection(itsClass, BOUNDARY);
                    bestWays[state] = 1;
                }
            }
        }

        private void listState(int gap, int itsClass) {
            int state = gap * CLASSES + itsClass;
            if (leastTo[state] >= FAR) {
                return;
            }
            openHeads(gap, itsClass);
            countBestWays(gap, state);
            for (int rank = 0; rank < MAX_RANKS; rank++) {
                int head = cheapestHead(gap);
                if (head < 0) {
                    break;
                }
                takeHead(gap, state, head);
            }
        }

        /** Each slot at the gap heads the list of the state behind it; at first with its best rest. */
        private void openHeads(int gap, int itsClass) {
            for (int i = 0; i < lattice.slotsAt[gap]; i++) {
                int slot = gap * MAX_AT_GAP + i;
                int cost = model.connection(itsClass, lattice.classes[slot]) + lattice.costs[slot];
                headRests[i] = 0;
                headCosts[i] = Math.min(FAR, cost + leastFrom(lattice.stateBehind(slot)));
            }
        }

        private int leastFrom(int state) {
            return listSizes[state] > 0 ? listCosts[state * MAX_RANKS] : FAR;
        }

        private void countBestWays(int gap, int state) {
            int head = cheapestHead(gap);
            int ways = 0;
            if (head >= 0) {
                for (int i = head; i < lattice.slotsAt[gap]; i++) {
                    if (headCosts[i] == headCosts[head]) {
                        ways = cappedSum(ways, bestWays[lattice.stateBehind(gap * MAX_AT_GAP + i)]);
                    }
                }
            }
            bestWays[state] = ways;
        }

        /** Among equal costs the first slot wins, for the slots lie in the order of comparison; -1 if none is left. */
        private int cheapestHead(int gap) {
            int head = -1;
            int least = FAR;
            for (int i = 0; i < lattice.slotsAt[gap]; i++) {
                if (headCosts[i] < least) {
                    least = headCosts[i];
                    head = i;
                }
            }
            return head;
        }

        private void takeHead(int gap, int state, int head) {
            int place = state * MAX_RANKS + listSizes[state];
            int slot = gap * MAX_AT_GAP + head;
            int rest = headRests[head];
            listCosts[place] = headCosts[head];
            listSlots[place] = slot;
            listRests[place] = rest;
            listSizes[state]++;

            int behind = lattice.stateBehind(slot);
            headRests[head] = rest + 1;
            if (rest + 1 < listSizes[behind]) {
                int list = behind * MAX_RANKS;
                headCosts[head] += listCosts[list + rest + 1] - listCosts[list + rest];
            } else {
                headCosts[head] = FAR;
            }
        }

        // ---- what is asked

        int allPaths() {
            return countsFrom[0];
        }

        int bestPaths() {
            return bestWays[BOUNDARY];
        }

        boolean hasRank(int rank) {
            return rank < listSizes[BOUNDARY];
        }

        int costAtRank(int rank) {
            return listCosts[BOUNDARY * MAX_RANKS + rank];
        }

        /** Puts the segments of the path with this rank into the trail. */
        void walk(int rank) {
            int state = BOUNDARY;
            int place = rank;
            int gap = 0;
            trailLength = 0;
            while (gap < model.inputSize && trailLength < MAX_INPUT) {
                int at = state * MAX_RANKS + place;
                int slot = listSlots[at];
                trailStart[trailLength] = gap;
                trailEntry[trailLength] = lattice.entries[slot];
                trailLength++;
                state = lattice.stateBehind(slot);
                place = listRests[at];
                gap = lattice.ends[slot];
            }
        }

        boolean trailHolds(int entry) {
            for (int i = 0; i < trailLength; i++) {
                if (trailEntry[i] == entry) {
                    return true;
                }
            }
            return false;
        }

        private int leastThroughSlot(int gap, int slot) {
            return leastBefore(gap, lattice.classes[slot]) + lattice.costs[slot]
                    + leastFrom(lattice.stateBehind(slot));
        }

        int leastThroughEntry(int entry, int start) {
            for (int i = 0; i < lattice.slotsAt[start]; i++) {
                int slot = start * MAX_AT_GAP + i;
                if (lattice.entries[slot] == entry) {
                    return Math.min(FAR, leastThroughSlot(start, slot));
                }
            }
            return FAR;
        }

        int leastEndingAt(int gap) {
            int least = FAR;
            for (int itsClass = 0; itsClass < CLASSES; itsClass++) {
                int state = gap * CLASSES + itsClass;
                least = Math.min(least, leastTo[state] + leastFrom(state));
            }
            return least;
        }

        int leastCrossing(int gap) {
            int least = FAR;
            for (int start = 0; start < gap; start++) {
                for (int i = 0; i < lattice.slotsAt[start]; i++) {
                    int slot = start * MAX_AT_GAP + i;
                    if (lattice.ends[slot] > gap) {
                        least = Math.min(least, leastThroughSlot(start, slot));
                    }
                }
            }
            return least;
        }
    }
}
