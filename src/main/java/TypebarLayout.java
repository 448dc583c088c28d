/**
 * A simulator and optimizer for the typebar layout of a mechanical typewriter.
 *
 * <p>Letters, positions and keystrokes are numbered from 0. Wrong arguments are answered by one of
 * the negative codes below and change nothing; no method throws.
 */
public final class TypebarLayout {
    /** A character code is not a letter a to l. */
    public static final int BAD_CHARACTER = -1000001;
    /** The text is full. */
    public static final int TEXT_FULL = -1000002;
    /** A letter, position, keystroke or parameter is out of range. */
    public static final int OUT_OF_RANGE = -1000003;
    /** The text is not a permutation of the letters a to l. */
    public static final int NOT_A_LAYOUT = -1000004;
    /** Two positions are equal. */
    public static final int SAME_POSITION = -1000005;
    /** There is nothing to return or to undo. */
    public static final int NOTHING = -1000006;

    private static final int TYPEBARS = 12;
    private static final int TEXT_LIMIT = 60;
    private static final int UNDO_LIMIT = 30;
    private static final int TRAVEL_TIME_LIMIT = 20;
    private static final int CLASH_DISTANCE_LIMIT = 5;
    private static final int CLEARING_TIME_LIMIT = 50;
    private static final int IMPROVE_LIMIT = 100;
    private static final int INTERVAL_LIMIT = 30;
    private static final int SWAP_CODE_BASE = 100;
    private static final long DIGEST_START = 1783L;

    private final int[] text;
    private int textLength;

    private int travelTime;
    private int clashDistance;
    private int clearingTime;

    // The layout is held both ways; only place() writes these two, so that they stay inverse.
    private final int[] letters;
    private final int[] positions;

    private final int[] undoFirst;
    private final int[] undoSecond;
    private int undoable;

    private final Typing latest;
    // safeInterval types into this one, because it must keep the results of the latest run.
    private final Typing trial;

    public TypebarLayout() {
        text = new int[TEXT_LIMIT];
        textLength = 0;
        travelTime = 4;
        clashDistance = 2;
        clearingTime = 10;
        letters = new int[TYPEBARS];
        positions = new int[TYPEBARS];
        for (int k = 0; k < TYPEBARS; k++) {
            letters[k] = k;
            positions[k] = k;
        }
        undoFirst = new int[UNDO_LIMIT];
        undoSecond = new int[UNDO_LIMIT];
        undoable = 0;
        latest = new Typing();
        trial = new Typing();
    }

    // ---- text and parameters

    public int append(int ch) {
        if (ch < 'a' || ch > 'l') {
            return BAD_CHARACTER;
        }
        if (textLength >= TEXT_LIMIT) {
            return TEXT_FULL;
        }
        text[textLength] = ch - 'a';
        textLength++;
        return textLength;
    }

    public int clearText() {
        int before = textLength;
        textLength = 0;
        return before;
    }

    public int pairCount(int first, int second) {
        if (!isNumber(first) || !isNumber(second)) {
            return OUT_OF_RANGE;
        }
        int count = 0;
        for (int k = 1; k < textLength; k++) {
            if (isPairOf(text[k - 1], text[k], first, second)) {
                count++;
            }
        }
        return count;
    }

    public int setTravelTime(int ticks) {
        if (ticks < 1 || ticks > TRAVEL_TIME_LIMIT) {
            return OUT_OF_RANGE;
        }
        int before = travelTime;
        travelTime = ticks;
        return before;
    }

    public int setClashDistance(int distance) {
        if (distance < 1 || distance > CLASH_DISTANCE_LIMIT) {
            return OUT_OF_RANGE;
        }
        int before = clashDistance;
        clashDistance = distance;
        return before;
    }

    public int setClearingTime(int ticks) {
        if (ticks < 0 || ticks > CLEARING_TIME_LIMIT) {
            return OUT_OF_RANGE;
        }
        int before = clearingTime;
        clearingTime = ticks;
        return before;
    }

    // ---- layout

    public int loadLayout() {
        if (!textIsLayout()) {
            return NOT_A_LAYOUT;
        }
        for (int p = 0; p < TYPEBARS; p++) {
            place(text[p], p);
        }
        textLength = 0;
        undoable = 0;
        return TYPEBARS;
    }

    public int letterAt(int position) {
        return isNumber(position) ? letters[position] : OUT_OF_RANGE;
    }

    public int positionOf(int letter) {
        return isNumber(letter) ? positions[letter] : OUT_OF_RANGE;
    }

    public int swap(int first, int second) {
        int error = swapError(first, second);
        if (error != 0) {
            return error;
        }
        makeSwap(first, second);
        return cost();
    }

    public int undo() {
        if (undoable <= 0) {
            return NOTHING;
        }
        undoable--;
        exchange(undoFirst[undoable], undoSecond[undoable]);
        return cost();
    }

    public int undoCount() {
        return undoable;
    }

    public int mirror() {
        for (int low = 0; low < TYPEBARS / 2; low++) {
            exchange(low, TYPEBARS - 1 - low);
        }
        undoable = 0;
        return cost();
    }

    // ---- cost

    public int cost() {
        int sum = 0;
        for (int k = 1; k < textLength; k++) {
            sum += closeness(text[k - 1], text[k]);
        }
        return sum;
    }

    public int gain(int first, int second) {
        int error = swapError(first, second);
        if (error != 0) {
            return error;
        }
        return cost() - costAfterSwap(first, second);
    }

    public int bestSwap() {
        int leastCost = cost();
        int best = NOTHING;
        for (int low = 0; low < TYPEBARS; low++) {
            for (int high = low + 1; high < TYPEBARS; high++) {
                int after = costAfterSwap(low, high);
                if (after < leastCost) {
                    leastCost = after;
                    best = SWAP_CODE_BASE * low + high;
                }
            }
        }
        return best;
    }

    public int improve(int limit) {
        if (limit < 0 || limit > IMPROVE_LIMIT) {
            return OUT_OF_RANGE;
        }
        for (int made = 0; made < limit; made++) {
            int best = bestSwap();
            if (best == NOTHING) {
                return made;
            }
            makeSwap(best / SWAP_CODE_BASE, best % SWAP_CODE_BASE);
        }
        return limit;
    }

    public int worstLetter() {
        int most = 0;
        int worst = NOTHING;
        for (int letter = 0; letter < TYPEBARS; letter++) {
            int share = closenessOf(letter);
            if (share > most) {
                most = share;
                worst = letter;
            }
        }
        return worst;
    }

    // ---- typing

    public int run(int interval) {
        if (interval < 1 || interval > INTERVAL_LIMIT) {
            return OUT_OF_RANGE;
        }
        typeText(latest, interval);
        return latest.printedCount;
    }

    public int jams() {
        return latest.jammedCount;
    }

    public int lost() {
        return latest.lostCount;
    }

    public int duration() {
        return latest.endTick;
    }

    public int printedLetter(int index) {
        if (index < 0 || index >= latest.printedCount) {
            return NOTHING;
        }
        return latest.printed[index];
    }

    public int jammedKeystroke(int index) {
        if (index < 0 || index >= latest.jammedCount) {
            return NOTHING;
        }
        return latest.jammed[index];
    }

    public int safeInterval() {
        for (int interval = 1; interval <= INTERVAL_LIMIT; interval++) {
            typeText(trial, interval);
            if (trial.jammedCount == 0 && trial.lostCount == 0) {
                return interval;
            }
        }
        return NOTHING;
    }

    public long digest() {
        long hash = mixAll(mix(DIGEST_START, textLength), text, textLength);
        hash = mix(hash, travelTime);
        hash = mix(hash, clashDistance);
        hash = mix(hash, clearingTime);
        hash = mixAll(hash, letters, TYPEBARS);
        hash = mix(hash, undoable);
        hash = mix(hash, cost());
        hash = mix(hash, bestSwap());
        hash = mix(hash, worstLetter());
        hash = mix(hash, safeInterval());
        hash = mix(hash, latest.jammedCount);
        hash = mix(hash, latest.lostCount);
        hash = mix(hash, latest.endTick);
        hash = mix(hash, latest.printedCount);
        hash = mixAll(hash, latest.printed, latest.printedCount);
        return mixAll(hash, latest.jammed, latest.jammedCount);
    }

    // ---- helpers for the text and the layout

    /** Letters and positions share one range, so one test serves both. */
    private static boolean isNumber(int value) {
        return value >= 0 && value < TYPEBARS;
    }

    private static boolean isPairOf(int before, int after, int first, int second) {
        return before == first && after == second || before == second && after == first;
    }

    private boolean textIsLayout() {
        if (textLength != TYPEBARS) {
            return false;
        }
        int seen = 0;
        for (int k = 0; k < TYPEBARS; k++) {
            seen |= 1 << text[k];
        }
        return seen == (1 << TYPEBARS) - 1;
    }

    private void place(int letter, int position) {
        letters[position] = letter;
        positions[letter] = position;
    }

    private void exchange(int first, int second) {
        int moved = letters[first];
        place(letters[second], first);
        place(moved, second);
    }

    /** Answers 0 if the two positions can be swapped. */
    private static int swapError(int first, int second) {
        if (!isNumber(first) || !isNumber(second)) {
            return OUT_OF_RANGE;
        }
        return first == second ? SAME_POSITION : 0;
    }

    private void makeSwap(int first, int second) {
        exchange(first, second);
        if (undoable >= UNDO_LIMIT) {
            forgetOldestSwap();
        }
        undoFirst[undoable] = first;
        undoSecond[undoable] = second;
        undoable++;
    }

    private void forgetOldestSwap() {
        for (int k = 1; k < UNDO_LIMIT; k++) {
            undoFirst[k - 1] = undoFirst[k];
            undoSecond[k - 1] = undoSecond[k];
        }
        undoable = UNDO_LIMIT - 1;
    }

    // ---- helpers for the cost

    /** A letter has no closeness to itself: the same typebar twice is no pair of the cost. */
    private int closeness(int letter, int other) {
        if (letter == other) {
            return 0;
        }
        int distance = Math.abs(positions[letter] - positions[other]);
        return Math.max(0, clashDistance + 1 - distance);
    }

    private int closenessOf(int letter) {
        int sum = 0;
        for (int k = 1; k < textLength; k++) {
            if (text[k - 1] == letter || text[k] == letter) {
                sum += closeness(text[k - 1], text[k]);
            }
        }
        return sum;
    }

    private int costAfterSwap(int first, int second) {
        exchange(first, second);
        int after = cost();
        exchange(first, second);
        return after;
    }

    // ---- helpers for the typing

    private void typeText(Typing typing, int interval) {
        typing.begin();
        int tick = 0;
        for (int keystroke = 0; keystroke < textLength; keystroke++) {
            boolean jammed = strike(typing, keystroke, tick);
            typing.endTick = tick + travelTime;
            tick += jammed ? interval + clearingTime : interval;
        }
    }

    /** Answers whether the keystroke was jammed, because only then the next one is delayed. */
    private boolean strike(Typing typing, int keystroke, int tick) {
        int letter = text[keystroke];
        int position = positions[letter];
        if (typing.inMotion(position, tick)) {
            typing.lostCount++;
            return false;
        }
        if (typing.stopAround(position, clashDistance, tick)) {
            typing.addJammed(keystroke);
            return true;
        }
        typing.addPrinted(letter);
        typing.restTicks[position] = tick + travelTime;
        return false;
    }

    // ---- helpers for the digest

    private static long mix(long hash, long value) {
        return 31L * hash + value;
    }

    private static long mixAll(long hash, int[] values, int count) {
        long mixed = hash;
        for (int k = 0; k < count && k < values.length; k++) {
            mixed = mix(mixed, values[k]);
        }
        return mixed;
    }

    /** The typebars while a text is typed, and what came of its keystrokes. */
    private static final class Typing {
        private final int[] printed;
        private int printedCount;
        private final int[] jammed;
        private int jammedCount;
        private int lostCount;
        private int endTick;
        // By position: the first tick at which the typebar there is at rest again. Positions serve
        // as well as letters here, because the layout can't change while a text is typed.
        private final int[] restTicks;

        private Typing() {
            printed = new int[TEXT_LIMIT];
            printedCount = 0;
            jammed = new int[TEXT_LIMIT];
            jammedCount = 0;
            lostCount = 0;
            endTick = 0;
            restTicks = new int[TYPEBARS];
        }

        private void begin() {
            printedCount = 0;
            jammedCount = 0;
            lostCount = 0;
            endTick = 0;
            for (int p = 0; p < TYPEBARS; p++) {
                restTicks[p] = 0;
            }
        }

        private boolean inMotion(int position, int tick) {
            return tick < restTicks[position];
        }

        /** Stops the typebars that clash with one at the position; answers whether there were any. */
        private boolean stopAround(int position, int reach, int tick) {
            int low = Math.max(0, position - reach);
            int high = Math.min(TYPEBARS - 1, position + reach);
            boolean stopped = false;
            for (int p = low; p <= high; p++) {
                if (inMotion(p, tick)) {
                    restTicks[p] = tick;
                    stopped = true;
                }
            }
            return stopped;
        }

        private void addPrinted(int letter) {
            if (printedCount < TEXT_LIMIT) {
                printed[printedCount] = letter;
                printedCount++;
            }
        }

        private void addJammed(int keystroke) {
            if (jammedCount < TEXT_LIMIT) {
                jammed[jammedCount] = keystroke;
                jammedCount++;
            }
        }
    }
}
