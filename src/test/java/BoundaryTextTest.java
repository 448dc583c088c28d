import java.util.function.IntUnaryOperator;

/** The boundary cases that the document names for the text and the parameters: promises 1 to 8. */
public final class BoundaryTextTest {
    private static final String ALPHABET = "abcdefghijkl";
    private static final String FULL_TEXT = ALPHABET.repeat(5);

    private static final Check check = new Check();

    public static void main(String[] args) {
        emptyText();
        layoutAtFirst();
        parametersAtFirst();
        appendRange();
        appendBadCharacter();
        appendNewLength();
        appendTextFull();
        fullTextIsKept();
        clearTextEmpties();
        clearTextLength();
        pairCountRange();
        pairCountOutOfRange();
        pairCountEqualLetters();
        pairCountAnyOrder();
        pairCountSuccessive();
        travelTimeRange();
        travelTimeOutOfRange();
        travelTimePrevious();
        clashDistanceRange();
        clashDistanceOutOfRange();
        clashDistancePrevious();
        clearingTimeRange();
        clearingTimeOutOfRange();
        clearingTimePrevious();
        loadLayoutPlaces();
        loadLayoutEmptiesText();
        loadLayoutForgetsSwaps();
        loadLayoutOfAnotherLength();
        loadLayoutOfRepeatedLetters();
        check.end();
    }

    private static void emptyText() {
        check.sentence("Promise 1", "Creates a typewriter with an empty text.");
        check.due("clearText()", new TypebarLayout().clearText(), 0);
        check.due("append('a')", new TypebarLayout().append('a'), 1);
        check.due("run(1)", new TypebarLayout().run(1), 0);
        check.due("cost()", new TypebarLayout().cost(), 0);
        TypebarLayout used = Given.busy();
        check.due("clearText() beside a full text", new TypebarLayout().clearText(), 0);
        check.due("clearText() of the full text", used.clearText(), 60);
    }

    private static void layoutAtFirst() {
        check.sentence("Description", "At first letter k is at position k.");
        TypebarLayout x = new TypebarLayout();
        for (int k = 0; k < 12; k++) {
            check.due("letterAt(" + k + ")", x.letterAt(k), k);
            check.due("positionOf(" + k + ")", x.positionOf(k), k);
        }
    }

    private static void parametersAtFirst() {
        check.sentence("Description", "At first T is 4, C is 2 and the clearing time is 10.");
        check.due("setTravelTime(20)", new TypebarLayout().setTravelTime(20), 4);
        check.due("setClashDistance(5)", new TypebarLayout().setClashDistance(5), 2);
        check.due("setClearingTime(50)", new TypebarLayout().setClearingTime(50), 10);
        TypebarLayout x = Given.text("aba");
        check.due("run(3) while T is 4", x.run(3), 2);
        check.due("duration(): 3, the clearing time and 3 more, and T", x.duration(), 3 + 10 + 3 + 4);
        check.due("cost() while C is 2", x.cost(), 4);
    }

    // ---- append

    private static void appendRange() {
        check.sentence("Promise 2", "character code of the letter, 'a' to 'l'");
        check.due("append(96)", new TypebarLayout().append(96), Given.BAD);
        check.due("append(97)", new TypebarLayout().append(97), 1);
        check.due("append(108)", new TypebarLayout().append(108), 1);
        check.due("append(109)", new TypebarLayout().append(109), Given.BAD);
        for (int k = 0; k < 12; k++) {
            TypebarLayout x = new TypebarLayout();
            check.due("append(" + (97 + k) + ")", x.append(97 + k), 1);
            x.run(1);
            check.due("the letter of it", x.printedLetter(0), k);
        }
    }

    private static void appendBadCharacter() {
        check.sentence("Promise 2", "BAD_CHARACTER if ch is not one of these");
        TypebarLayout x = new TypebarLayout();
        // Capitals, letter numbers, and what becomes a letter if bits are cut off.
        int[] bad = {
            'A', 'L', 0, 11, 12, -1, -97, -108, 97 + 128, 97 + 256, 97 - 256, 97 + 65536, 108 - 65536, 97 | Given.MIN,
            Given.MIN, Given.MIN + 1, Given.MAX, Given.MAX - 1
        };
        for (int ch : bad) {
            check.due("append(" + ch + ")", x.append(ch), Given.BAD);
        }
        for (int ch = -128; ch < 256; ch++) {
            if (ch < 97 || ch > 108) {
                check.due("append(" + ch + ")", x.append(ch), Given.BAD);
            }
        }
        check.due("clearText() behind them", x.clearText(), 0);
    }

    private static void appendNewLength() {
        check.sentence("Promise 2", "Returns the new length of the text");
        TypebarLayout x = new TypebarLayout();
        for (int length = 1; length <= 60; length++) {
            check.due("append('c')", x.append('c'), length);
        }
        x.clearText();
        check.due("append('c') behind clearText", x.append('c'), 1);
        TypebarLayout loaded = Given.text(ALPHABET);
        loaded.loadLayout();
        check.due("append('c') behind loadLayout", loaded.append('c'), 1);
    }

    private static void appendTextFull() {
        check.sentence("Promise 2", "TEXT_FULL if the text already has 60 letters.");
        TypebarLayout x = Given.text(FULL_TEXT.substring(0, 58));
        check.due("append('a') to 58 letters", x.append('a'), 59);
        check.due("append('a') to 59 letters", x.append('a'), 60);
        for (int ch = 'a'; ch <= 'l'; ch++) {
            check.due("append(" + ch + ") to 60 letters", x.append(ch), Given.FULL);
        }
        x.clearText();
        check.due("append('a') to the text that was full", x.append('a'), 1);
    }

    private static void fullTextIsKept() {
        check.sentence("Description", "The text is a sequence of at most 60 letters.");
        TypebarLayout x = Given.text(FULL_TEXT);
        x.append('a');
        x.append('b');
        check.due("run(30)", x.run(30), 60);
        for (int k = 0; k < 60; k++) {
            check.due("printedLetter(" + k + ")", x.printedLetter(k), k % 12);
        }
        check.due("printedLetter(60)", x.printedLetter(60), Given.NONE);
        check.due("clearText()", x.clearText(), 60);
    }

    // ---- clearText

    private static void clearTextEmpties() {
        check.sentence("Promise 3", "Empties the text.");
        String[] texts = {"", "a", "ab", FULL_TEXT};
        for (String text : texts) {
            TypebarLayout x = Given.text(text);
            x.clearText();
            check.due("cost() where '" + text + "' was", x.cost(), 0);
            check.due("worstLetter() where '" + text + "' was", x.worstLetter(), Given.NONE);
            check.due("safeInterval() where '" + text + "' was", x.safeInterval(), 1);
            check.due("digest() where '" + text + "' was", x.digest(), new TypebarLayout().digest());
        }
        // The layout, the swaps and the parameters are no part of the text.
        TypebarLayout x = Given.text("abab", 6, 3, 7);
        x.swap(0, 11);
        x.clearText();
        check.due("the layout", Given.layout(x), "lbcdefghijka");
        check.due("undoCount()", x.undoCount(), 1);
        check.due("setTravelTime(1)", x.setTravelTime(1), 6);
        check.due("setClashDistance(1)", x.setClashDistance(1), 3);
        check.due("setClearingTime(1)", x.setClearingTime(1), 7);
    }

    private static void clearTextLength() {
        check.sentence("Promise 3", "Returns the length of the text before the call.");
        int[] lengths = {0, 1, 2, 11, 12, 13, 59, 60};
        for (int length : lengths) {
            TypebarLayout x = Given.text(FULL_TEXT.substring(0, length));
            check.due("clearText() of " + length + " letters", x.clearText(), length);
            check.due("clearText() again", x.clearText(), 0);
            check.due("run(1) of what is left", x.run(1), 0);
        }
        TypebarLayout full = Given.text(FULL_TEXT);
        full.append('a');
        check.due("clearText() behind a refused letter", full.clearText(), 60);
    }

    // ---- pairCount

    private static void pairCountRange() {
        check.sentence("Promise 4", "`first`: a letter number, 0 to 11");
        TypebarLayout x = Given.text("alla");
        check.due("pairCount(-1, 0)", x.pairCount(-1, 0), Given.RANGE);
        check.due("pairCount(0, 11)", x.pairCount(0, 11), 2);
        check.due("pairCount(11, 0)", x.pairCount(11, 0), 2);
        check.due("pairCount(12, 0)", x.pairCount(12, 0), Given.RANGE);
        check.due("pairCount(0, -1)", x.pairCount(0, -1), Given.RANGE);
        check.due("pairCount(0, 12)", x.pairCount(0, 12), Given.RANGE);
        check.due("pairCount(0, 0)", x.pairCount(0, 0), 0);
        check.due("pairCount(11, 11)", x.pairCount(11, 11), 1);
    }

    private static void pairCountOutOfRange() {
        check.sentence("Promise 4", "OUT_OF_RANGE if a letter number is out of range.");
        TypebarLayout[] objects = {new TypebarLayout(), Given.text("a"), Given.text(FULL_TEXT)};
        int[] wrong = {-1, 12, 97, 108, 256, 65536, Given.MIN, Given.MIN + 1, Given.MAX, Given.MAX - 1};
        for (TypebarLayout x : objects) {
            for (int w : wrong) {
                check.due("pairCount(" + w + ", 0)", x.pairCount(w, 0), Given.RANGE);
                check.due("pairCount(11, " + w + ")", x.pairCount(11, w), Given.RANGE);
                check.due("pairCount of it twice", x.pairCount(w, w), Given.RANGE);
                check.due("pairCount(-1, " + w + ")", x.pairCount(-1, w), Given.RANGE);
            }
        }
    }

    private static void pairCountEqualLetters() {
        check.sentence("Promise 4", "it may equal first");
        check.due("pairCount(0, 0) of aa", Given.text("aa").pairCount(0, 0), 1);
        check.due("pairCount(0, 0) of aaa", Given.text("aaa").pairCount(0, 0), 2);
        check.due("pairCount(0, 0) of aba", Given.text("aba").pairCount(0, 0), 0);
        check.due("pairCount(11, 11) of 60 l", Given.text("l".repeat(60)).pairCount(11, 11), 59);
        for (int k = 0; k < 12; k++) {
            check.due("pairCount(" + k + ", " + k + ") of no text", new TypebarLayout().pairCount(k, k), 0);
        }
    }

    private static void pairCountAnyOrder() {
        check.sentence("Promise 4", "in any order");
        check.due("pairCount(0, 1) of ba", Given.text("ba").pairCount(0, 1), 1);
        check.due("pairCount(1, 0) of ba", Given.text("ba").pairCount(1, 0), 1);
        check.due("pairCount(0, 1) of aba", Given.text("aba").pairCount(0, 1), 2);
        check.due("pairCount(1, 0) of aab", Given.text("aab").pairCount(1, 0), 1);
        check.due("pairCount(11, 0) of 30 al", Given.text("al".repeat(30)).pairCount(11, 0), 59);
    }

    private static void pairCountSuccessive() {
        check.sentence("Promise 4", "Counts the pairs of successive keystrokes that consist of two given letters");
        check.due("pairCount(0, 0) of a", Given.text("a").pairCount(0, 0), 0);
        check.due("pairCount(0, 2) of abc: the last and the first are no pair",
            Given.text("abc").pairCount(0, 2), 0);
        check.due("pairCount(0, 1) of acb", Given.text("acb").pairCount(0, 1), 0);
        // The first pair and the last pair of a full text count.
        TypebarLayout x = Given.text("ab" + "c".repeat(56) + "de");
        check.due("pairCount(0, 1)", x.pairCount(0, 1), 1);
        check.due("pairCount(3, 4)", x.pairCount(3, 4), 1);
        check.due("pairCount(2, 2)", x.pairCount(2, 2), 55);
        x.clearText();
        check.due("pairCount(2, 2) behind clearText", x.pairCount(2, 2), 0);
        x.append('c');
        check.due("pairCount(2, 2) of c, where there were more", x.pairCount(2, 2), 0);
    }

    // ---- the parameters

    private static void refusedOutside(String method, IntUnaryOperator set, int low, int high) {
        int[] wrong = {
            low - 1, low - 2, high + 1, high + 2, low + 256, high + 65536, -high, -low - 1, Given.MIN, Given.MIN + low,
            Given.MIN + high, Given.MAX, Given.MAX - 1
        };
        for (int w : wrong) {
            check.due(method + "(" + w + ")", set.applyAsInt(w), Given.RANGE);
        }
    }

    /** The previous value is the one that was set last, a refused one never. */
    private static void previousIsAnswered(String method, IntUnaryOperator set, int low, int high, int atFirst) {
        int previous = atFirst;
        for (int value = low; value <= high; value++) {
            check.due(method + "(" + value + ")", set.applyAsInt(value), previous);
            check.due(method + "(" + (high + 1) + ")", set.applyAsInt(high + 1), Given.RANGE);
            check.due(method + "(" + value + ") again", set.applyAsInt(value), value);
            previous = value;
        }
        check.due(method + "(" + low + ")", set.applyAsInt(low), high);
        check.due(method + "(" + (low - 1) + ")", set.applyAsInt(low - 1), Given.RANGE);
        check.due(method + "(" + high + ")", set.applyAsInt(high), low);
    }

    private static void travelTimeRange() {
        check.sentence("Promise 5", "`ticks`: 1 to 20");
        TypebarLayout x = Given.text("aa");
        check.due("setTravelTime(0)", x.setTravelTime(0), Given.RANGE);
        check.due("safeInterval() with T still 4", x.safeInterval(), 4);
        check.due("setTravelTime(1)", x.setTravelTime(1), 4);
        check.due("safeInterval() with T 1", x.safeInterval(), 1);
        check.due("setTravelTime(20)", x.setTravelTime(20), 1);
        check.due("safeInterval() with T 20", x.safeInterval(), 20);
        check.due("setTravelTime(21)", x.setTravelTime(21), Given.RANGE);
        check.due("safeInterval() with T still 20", x.safeInterval(), 20);
    }

    private static void travelTimeOutOfRange() {
        check.sentence("Promise 5", "OUT_OF_RANGE if ticks is out of range.");
        TypebarLayout x = new TypebarLayout();
        refusedOutside("setTravelTime", x::setTravelTime, 1, 20);
        check.due("setTravelTime(7) behind them", x.setTravelTime(7), 4);
    }

    private static void travelTimePrevious() {
        check.sentence("Promise 5", "Returns the previous travel time");
        previousIsAnswered("setTravelTime", new TypebarLayout()::setTravelTime, 1, 20, 4);
    }

    private static void clashDistanceRange() {
        check.sentence("Promise 6", "`distance`: 1 to 5");
        TypebarLayout x = Given.text("abgaf");
        check.due("setClashDistance(0)", x.setClashDistance(0), Given.RANGE);
        check.due("cost() with C still 2", x.cost(), 2);
        check.due("setClashDistance(1)", x.setClashDistance(1), 2);
        check.due("cost() with C 1", x.cost(), 1);
        check.due("setClashDistance(5)", x.setClashDistance(5), 1);
        check.due("cost() with C 5", x.cost(), 5 + 1 + 0 + 1);
        check.due("setClashDistance(6)", x.setClashDistance(6), Given.RANGE);
        check.due("cost() with C still 5", x.cost(), 7);
    }

    private static void clashDistanceOutOfRange() {
        check.sentence("Promise 6", "OUT_OF_RANGE if distance is out of range.");
        TypebarLayout x = new TypebarLayout();
        refusedOutside("setClashDistance", x::setClashDistance, 1, 5);
        check.due("setClashDistance(3) behind them", x.setClashDistance(3), 2);
    }

    private static void clashDistancePrevious() {
        check.sentence("Promise 6", "Returns the previous clash distance");
        previousIsAnswered("setClashDistance", new TypebarLayout()::setClashDistance, 1, 5, 2);
    }

    private static void clearingTimeRange() {
        check.sentence("Promise 7", "`ticks`: 0 to 50");
        TypebarLayout x = Given.text("abl");
        check.due("setClearingTime(-1)", x.setClearingTime(-1), Given.RANGE);
        x.run(1);
        check.due("duration() with 10 still", x.duration(), 1 + 10 + 1 + 4);
        check.due("setClearingTime(0)", x.setClearingTime(0), 10);
        x.run(1);
        check.due("duration() with 0", x.duration(), 1 + 0 + 1 + 4);
        check.due("setClearingTime(50)", x.setClearingTime(50), 0);
        x.run(1);
        check.due("duration() with 50", x.duration(), 1 + 50 + 1 + 4);
        check.due("setClearingTime(51)", x.setClearingTime(51), Given.RANGE);
        x.run(1);
        check.due("duration() with 50 still", x.duration(), 56);
    }

    private static void clearingTimeOutOfRange() {
        check.sentence("Promise 7", "OUT_OF_RANGE if ticks is out of range.");
        TypebarLayout x = new TypebarLayout();
        refusedOutside("setClearingTime", x::setClearingTime, 0, 50);
        check.due("setClearingTime(9) behind them", x.setClearingTime(9), 10);
    }

    private static void clearingTimePrevious() {
        check.sentence("Promise 7", "Returns the previous clearing time");
        previousIsAnswered("setClearingTime", new TypebarLayout()::setClearingTime, 0, 50, 10);
    }

    // ---- loadLayout

    private static void loadLayoutPlaces() {
        check.sentence("Promise 8", "the letter at index p of the text gets position p");
        String[] layouts = {ALPHABET, "lkjihgfedcba", "bcdefghijkla", "labcdefghijk", "gahbicjdkelf"};
        TypebarLayout x = new TypebarLayout();
        for (String layout : layouts) {
            Given.write(x, layout);
            check.due("loadLayout()", x.loadLayout(), 12);
            check.due("the layout", Given.layout(x), layout);
            for (int p = 0; p < 12; p++) {
                check.due("positionOf(letter " + layout.charAt(p) + ")", x.positionOf(layout.charAt(p) - 'a'), p);
            }
        }
    }

    private static void loadLayoutEmptiesText() {
        check.sentence("Promise 8", "The text is emptied.");
        TypebarLayout x = Given.text(ALPHABET);
        x.loadLayout();
        check.due("cost()", x.cost(), 0);
        check.due("pairCount(0, 1)", x.pairCount(0, 1), 0);
        check.due("loadLayout() of the text that is empty now", x.loadLayout(), Given.NO_LAYOUT);
        check.due("clearText()", x.clearText(), 0);
    }

    private static void loadLayoutForgetsSwaps() {
        check.sentence("Promise 8", "All swaps that could be undone are forgotten.");
        int[] counts = {0, 1, 29, 30, 31};
        for (int count : counts) {
            TypebarLayout x = Given.text(ALPHABET);
            Given.swaps(x, 1, count);
            check.due("loadLayout() behind " + count + " swaps", x.loadLayout(), 12);
            check.due("undoCount()", x.undoCount(), 0);
            check.due("undo()", x.undo(), Given.NONE);
            check.due("the layout", Given.layout(x), ALPHABET);
            x.swap(0, 11);
            check.due("undoCount() behind one swap more", x.undoCount(), 1);
            check.due("undo()", x.undo(), 0);
            check.due("undo()", x.undo(), Given.NONE);
        }
    }

    private static void refusedLayout(String text) {
        TypebarLayout x = Given.text(text);
        check.due("loadLayout() of '" + text + "'", x.loadLayout(), Given.NO_LAYOUT);
        check.due("the layout", Given.layout(x), ALPHABET);
        check.due("clearText()", x.clearText(), text.length());
    }

    private static void loadLayoutOfAnotherLength() {
        check.sentence("Promise 8", "NOT_A_LAYOUT if the text does not consist of 12 different letters.");
        int[] lengths = {0, 1, 11, 13, 24, 59, 60};
        for (int length : lengths) {
            refusedLayout(FULL_TEXT.substring(0, length));
        }
        refusedLayout("bcdefghijkl");
        refusedLayout("lkjihgfedcbaa");
        // A layout behind twelve letters, or with one letter too many in the middle, is none.
        refusedLayout("aaaaaaaaaaaa" + ALPHABET);
        refusedLayout("abcdefgghijkl");
        TypebarLayout x = Given.text("lkjihgfedcb");
        check.due("loadLayout() of 11 letters", x.loadLayout(), Given.NO_LAYOUT);
        x.append('a');
        check.due("loadLayout() of 12 letters", x.loadLayout(), 12);
    }

    private static void loadLayoutOfRepeatedLetters() {
        check.sentence("Promise 8", "if the text does not consist of 12 different letters");
        // Each letter of the twelve replaced by each other one.
        for (int p = 0; p < 12; p++) {
            for (int other = 0; other < 12; other++) {
                if (p != other) {
                    refusedLayout(ALPHABET.substring(0, p) + ALPHABET.charAt(other) + ALPHABET.substring(p + 1));
                }
            }
        }
        for (int k = 0; k < 12; k++) {
            refusedLayout(Given.letters(k).repeat(12));
        }
        refusedLayout("abcdefabcdef");
        refusedLayout("aabbccddeeff");
    }
}
