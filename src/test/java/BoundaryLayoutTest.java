import java.util.function.IntUnaryOperator;

/** The boundary cases that the document names for the layout, the swaps and the cost: promises 9 to 19. */
public final class BoundaryLayoutTest {
    private static final String ALPHABET = "abcdefghijkl";
    private static final int[] OUTSIDE = {
        -1, 12, -2, 13, -11, -12, 97, 256, 256 + 5, 65536, Given.MIN, Given.MIN + 1, Given.MAX, Given.MAX - 1
    };
    /** With C 5, sixteen swaps make it better, one behind another. */
    private static final String SIXTEEN_SWAPS = "leedebgccdkkhjllkedegldeigefcfldkjhbgglje";

    private static final Check check = new Check();

    public static void main(String[] args) {
        letterAtRange();
        letterAtOutOfRange();
        positionOfRange();
        positionOfOutOfRange();
        differentPositions();
        swapRange();
        swapOutOfRange();
        swapSamePosition();
        swapExchanges();
        swapCost();
        undoNothing();
        undoLatestFirst();
        undoCost();
        undoThirty();
        undoMoreThanThirty();
        undoMakesRoom();
        undoSwapsOfImprove();
        undoCountUpToThirty();
        lastOf512Calls();
        mirrorEnds();
        mirrorForgetsSwaps();
        mirrorCost();
        closenessNotBelowZero();
        costOfDifferentLetters();
        costOfShortestAndLongestText();
        gainRange();
        gainOutOfRange();
        gainSamePosition();
        gainIsDifference();
        gainIsNotMade();
        gainMayBeNegative();
        bestSwapCode();
        bestSwapGreatestGain();
        bestSwapLowestSmaller();
        bestSwapLowestGreater();
        bestSwapNothing();
        improveLimitRange();
        improveOutOfRange();
        improveUntilLimit();
        improveUntilNoSwap();
        improveMakesBestSwaps();
        worstLetterMost();
        worstLetterLowest();
        worstLetterDifferentLetters();
        worstLetterNothing();
        check.end();
    }

    private static void refusedOutside(String method, IntUnaryOperator call) {
        for (int w : OUTSIDE) {
            check.due(method + "(" + w + ")", call.applyAsInt(w), Given.RANGE);
        }
    }

    // ---- letterAt and positionOf

    private static TypebarLayout loaded(String layout) {
        TypebarLayout x = Given.text(layout);
        x.loadLayout();
        return x;
    }

    private static void letterAtRange() {
        check.sentence("Promise 9", "`position`: 0 to 11");
        TypebarLayout x = loaded("gahbicjdkelf");
        check.due("letterAt(-1)", x.letterAt(-1), Given.RANGE);
        check.due("letterAt(0)", x.letterAt(0), 6);
        check.due("letterAt(11)", x.letterAt(11), 5);
        check.due("letterAt(12)", x.letterAt(12), Given.RANGE);
    }

    private static void letterAtOutOfRange() {
        check.sentence("Promise 9", "OUT_OF_RANGE if position is out of range.");
        refusedOutside("letterAt", new TypebarLayout()::letterAt);
        refusedOutside("letterAt", Given.busy()::letterAt);
    }

    private static void positionOfRange() {
        check.sentence("Promise 10", "`letter`: a letter number, 0 to 11");
        TypebarLayout x = loaded("gahbicjdkelf");
        check.due("positionOf(-1)", x.positionOf(-1), Given.RANGE);
        check.due("positionOf(0)", x.positionOf(0), 1);
        check.due("positionOf(11)", x.positionOf(11), 10);
        check.due("positionOf(12)", x.positionOf(12), Given.RANGE);
    }

    private static void positionOfOutOfRange() {
        check.sentence("Promise 10", "OUT_OF_RANGE if letter is out of range.");
        refusedOutside("positionOf", new TypebarLayout()::positionOf);
        refusedOutside("positionOf", Given.busy()::positionOf);
    }

    private static void differentPositions() {
        check.sentence("Description", "A layout assigns a different position to every letter.");
        TypebarLayout x = Given.text(SIXTEEN_SWAPS);
        x.setClashDistance(5);
        int[] steps = {1, 2, 3, 4, 5};
        for (int step : steps) {
            switch (step) {
                case 1 -> Given.swaps(x, 1, 40);
                case 2 -> x.undo();
                case 3 -> x.improve(100);
                case 4 -> x.mirror();
                default -> x.swap(11, 0);
            }
            for (int p = 0; p < 12; p++) {
                check.due("positionOf(letterAt(" + p + ")), step " + step, x.positionOf(x.letterAt(p)), p);
                check.due("letterAt(positionOf(" + p + ")), step " + step, x.letterAt(x.positionOf(p)), p);
            }
        }
    }

    // ---- swap

    private static void swapRange() {
        check.sentence("Promise 11", "`second`: 0 to 11");
        TypebarLayout x = new TypebarLayout();
        check.due("swap(0, 11)", x.swap(0, 11), 0);
        check.due("the layout", Given.layout(x), "lbcdefghijka");
        check.due("swap(11, 0)", x.swap(11, 0), 0);
        check.due("the layout", Given.layout(x), ALPHABET);
        check.due("swap(0, 1)", x.swap(0, 1), 0);
        check.due("the layout", Given.layout(x), "bacdefghijkl");
        check.due("swap(11, 10)", x.swap(11, 10), 0);
        check.due("the layout", Given.layout(x), "bacdefghijlk");
        check.due("swap(-1, 11)", x.swap(-1, 11), Given.RANGE);
        check.due("swap(0, 12)", x.swap(0, 12), Given.RANGE);
        check.due("swap(12, 0)", x.swap(12, 0), Given.RANGE);
        check.due("swap(11, -1)", x.swap(11, -1), Given.RANGE);
        check.due("the layout", Given.layout(x), "bacdefghijlk");
    }

    private static void swapOutOfRange() {
        check.sentence("Promise 11", "OUT_OF_RANGE if a position is out of range");
        for (int inside = 0; inside < 12; inside++) {
            TypebarLayout x = Given.text("abcabc");
            int p = inside;
            refusedOutside("swap(" + p + ", it)", w -> x.swap(p, w));
            refusedOutside("swap(it, " + p + ")", w -> x.swap(w, p));
            check.due("undoCount()", x.undoCount(), 0);
            check.due("the layout", Given.layout(x), ALPHABET);
        }
        for (int w : OUTSIDE) {
            refusedOutside("swap(" + w + ", it)", v -> new TypebarLayout().swap(w, v));
        }
    }

    private static void swapSamePosition() {
        check.sentence("Promise 11", "SAME_POSITION if the positions are equal.");
        TypebarLayout x = Given.text("abcabc");
        for (int p = 0; p < 12; p++) {
            check.due("swap(" + p + ", " + p + ")", x.swap(p, p), Given.SAME);
        }
        check.due("undoCount()", x.undoCount(), 0);
        check.due("the layout", Given.layout(x), ALPHABET);
    }

    private static void swapExchanges() {
        check.sentence("Description", "A swap exchanges the typebars at two different positions.");
        for (int p = 0; p < 12; p++) {
            for (int q = 0; q < 12; q++) {
                if (p != q) {
                    TypebarLayout x = new TypebarLayout();
                    x.swap(p, q);
                    StringBuilder want = new StringBuilder(ALPHABET);
                    want.setCharAt(p, ALPHABET.charAt(q));
                    want.setCharAt(q, ALPHABET.charAt(p));
                    check.due("the layout behind swap(" + p + ", " + q + ")", Given.layout(x), want.toString());
                    check.due("positionOf(" + p + ")", x.positionOf(p), q);
                    check.due("positionOf(" + q + ")", x.positionOf(q), p);
                }
            }
        }
    }

    private static void swapCost() {
        check.sentence("Promise 11", "Returns the cost after the swap");
        check.due("swap(0, 1) of no text", new TypebarLayout().swap(0, 1), 0);
        check.due("swap(0, 1) of a", Given.text("a").swap(0, 1), 0);
        check.due("swap(0, 3) of ab: a is 2 from b", Given.text("ab").swap(0, 3), 1);
        check.due("swap(0, 4) of ab: a is 3 from b", Given.text("ab").swap(0, 4), 0);
        check.due("swap(1, 11) of al: l is beside a", Given.text("al").swap(1, 11), 2);
        TypebarLayout x = Given.text("al".repeat(30));
        x.setClashDistance(5);
        check.due("swap(11, 1) of the full text", x.swap(11, 1), 59 * 5);
    }

    // ---- undo

    private static void undoNothing() {
        check.sentence("Promise 12", "NOTHING if there is no swap to undo.");
        TypebarLayout x = Given.text("abab");
        check.due("undo()", x.undo(), Given.NONE);
        x.swap(3, 3);
        x.swap(0, 12);
        x.gain(0, 11);
        x.bestSwap();
        x.improve(0);
        check.due("undo() where no swap was made", x.undo(), Given.NONE);
        x.swap(0, 11);
        check.due("undo()", x.undo(), 6);
        check.due("undo() behind the only one", x.undo(), Given.NONE);
        check.due("undo() again", x.undo(), Given.NONE);
        check.due("undoCount()", x.undoCount(), 0);
        check.due("the layout", Given.layout(x), ALPHABET);
        x.swap(0, 1);
        check.due("undo() of a swap behind a refused undo", x.undo(), 6);
    }

    private static void undoLatestFirst() {
        check.sentence("Promise 12", "Undoes the latest swap that has not been undone.");
        TypebarLayout x = new TypebarLayout();
        x.swap(0, 1);
        x.swap(1, 2);
        x.swap(2, 3);
        check.due("the layout", Given.layout(x), "bcdaefghijkl");
        x.undo();
        check.due("the layout", Given.layout(x), "bcadefghijkl");
        x.undo();
        check.due("the layout: undo is no swap", Given.layout(x), "bacdefghijkl");
        x.swap(0, 11);
        x.undo();
        check.due("the layout", Given.layout(x), "bacdefghijkl");
        x.undo();
        check.due("the layout", Given.layout(x), ALPHABET);
        check.due("undo()", x.undo(), Given.NONE);
    }

    private static void undoCost() {
        check.sentence("Promise 12", "Returns the cost after it");
        TypebarLayout x = Given.text("ab".repeat(30));
        x.setClashDistance(5);
        x.swap(0, 6);
        x.swap(6, 11);
        check.due("undo()", x.undo(), 59 * 1);
        check.due("undo()", x.undo(), 59 * 5);
        x.swap(1, 11);
        x.clearText();
        check.due("undo() of a text that was cleared", x.undo(), 0);
        check.due("undo()", x.undo(), Given.NONE);
    }

    /** The layouts behind 0, 1, 2 and so on swaps of Given.swaps. */
    private static String[] layoutsBehindSwaps(int count) {
        TypebarLayout x = new TypebarLayout();
        String[] layouts = new String[count + 1];
        for (int k = 0; k <= count; k++) {
            Given.swaps(x, Math.max(1, k), k);
            layouts[k] = Given.layout(x);
        }
        return layouts;
    }

    /** Undoes all, from the layout behind one swap down to that behind another. */
    private static void undoesDownTo(TypebarLayout x, String[] layouts, int from, int to) {
        check.due("undoCount()", x.undoCount(), from - to);
        check.due("the layout behind swap " + from, Given.layout(x), layouts[from]);
        for (int k = from - 1; k >= to; k--) {
            check.due("undo()", x.undo(), 0);
            check.due("the layout behind swap " + k, Given.layout(x), layouts[k]);
            check.due("undoCount()", x.undoCount(), k - to);
        }
        check.due("undo()", x.undo(), Given.NONE);
        check.due("the layout behind swap " + to, Given.layout(x), layouts[to]);
    }

    private static void undoThirty() {
        check.sentence("Promise 12", "The latest 30 swaps can be undone");
        String[] layouts = layoutsBehindSwaps(30);
        int[] counts = {0, 1, 29, 30};
        for (int count : counts) {
            TypebarLayout x = new TypebarLayout();
            Given.swaps(x, 1, count);
            undoesDownTo(x, layouts, count, 0);
        }
    }

    private static void undoMoreThanThirty() {
        check.sentence("Promise 12", "when there are more, the oldest ones are forgotten");
        String[] layouts = layoutsBehindSwaps(31);
        TypebarLayout one = new TypebarLayout();
        Given.swaps(one, 1, 31);
        undoesDownTo(one, layouts, 31, 1);
        String[] more = layoutsBehindSwaps(32);
        TypebarLayout two = new TypebarLayout();
        Given.swaps(two, 1, 32);
        undoesDownTo(two, more, 32, 2);
        int[] counts = {59, 60, 61, 90, 91};
        for (int count : counts) {
            TypebarLayout x = new TypebarLayout();
            TypebarLayout y = new TypebarLayout();
            Given.swaps(x, 1, count);
            Given.swaps(y, 1, count - 30);
            for (int k = 0; k < 30; k++) {
                check.due("undo() of " + count + " swaps", x.undo(), 0);
            }
            check.due("undo() of " + count + " swaps", x.undo(), Given.NONE);
            check.due("the layout", Given.layout(x), Given.layout(y));
        }
    }

    private static void undoMakesRoom() {
        check.sentence("Promise 12", "The latest 30 swaps can be undone");
        String[] layouts = layoutsBehindSwaps(35);
        // A swap that was undone does not count: the first one is still there.
        TypebarLayout x = new TypebarLayout();
        Given.swaps(x, 1, 29);
        x.swap(0, 11);
        x.undo();
        Given.swaps(x, 30, 30);
        undoesDownTo(x, layouts, 30, 0);
        // And what was forgotten does not come back.
        TypebarLayout y = new TypebarLayout();
        Given.swaps(y, 1, 35);
        for (int k = 0; k < 5; k++) {
            y.undo();
        }
        check.due("undoCount()", y.undoCount(), 25);
        Given.swaps(y, 31, 35);
        undoesDownTo(y, layouts, 35, 5);
        // All thirty places can be used again when all were undone.
        TypebarLayout z = new TypebarLayout();
        Given.swaps(z, 1, 1);
        for (int again = 0; again < 3; again++) {
            Given.swaps(z, 2, 31);
            check.due("undoCount()", z.undoCount(), 30);
            for (int k = 0; k < 30; k++) {
                check.due("undo()", z.undo(), 0);
            }
            check.due("undo()", z.undo(), Given.NONE);
            check.due("the layout", Given.layout(z), layouts[1]);
        }
    }

    private static void undoSwapsOfImprove() {
        check.sentence("Promise 12", "Swaps by swap and by improve count.");
        int[] counts = {0, 14, 15, 27, 28, 29, 30, 31};
        for (int count : counts) {
            TypebarLayout x = Given.text(SIXTEEN_SWAPS);
            TypebarLayout hand = Given.text(SIXTEEN_SWAPS);
            x.setClashDistance(5);
            hand.setClashDistance(5);
            Given.swaps(x, 1, count);
            Given.swaps(hand, 1, count);
            int made = x.improve(16);
            check.holds("improve made several swaps", made > 1);
            for (int k = 0; k < made; k++) {
                int best = hand.bestSwap();
                hand.swap(best / 100, best % 100);
            }
            check.due("undoCount() behind " + count + " and " + made, x.undoCount(), Math.min(30, count + made));
            check.holds("improve is the same as swap to undo", Given.view(x).equals(Given.view(hand)));
        }
    }

    private static void undoCountUpToThirty() {
        check.sentence("Promise 13", "Returns the number of swaps.");
        TypebarLayout x = new TypebarLayout();
        for (int k = 0; k <= 35; k++) {
            check.due("undoCount() behind " + k + " swaps", x.undoCount(), Math.min(k, 30));
            x.swap(4, 8);
        }
        for (int k = 30; k >= 0; k--) {
            check.due("undoCount()", x.undoCount(), k);
            x.undo();
        }
        check.due("undoCount() behind a refused undo", x.undoCount(), 0);
    }

    private static void lastOf512Calls() {
        check.sentence("What it is", "An object is used for at most 512 calls after it has been made");
        TypebarLayout x = new TypebarLayout();
        for (int k = 1; k <= 511; k++) {
            check.due("swap(0, 11), call " + k, x.swap(0, 11), 0);
        }
        check.due("letterAt(0), call 512", x.letterAt(0), 11);
        TypebarLayout y = new TypebarLayout();
        for (int k = 1; k <= 511; k++) {
            check.due("append('l'), call " + k, y.append('l'), k <= 60 ? k : Given.FULL);
        }
        check.due("run(30), call 512", y.run(30), 60);
        TypebarLayout z = Given.text(SIXTEEN_SWAPS);
        for (int k = SIXTEEN_SWAPS.length() + 1; k <= 511; k++) {
            z.run(1 + k % 30);
        }
        check.due("jammedKeystroke(60), call 512", z.jammedKeystroke(60), Given.NONE);
    }

    // ---- mirror

    private static void mirrorEnds() {
        check.sentence("Promise 14", "the letter at position p gets position 11 - p");
        TypebarLayout x = new TypebarLayout();
        check.due("mirror()", x.mirror(), 0);
        for (int k = 0; k < 12; k++) {
            check.due("letterAt(" + k + ")", x.letterAt(k), 11 - k);
            check.due("positionOf(" + k + ")", x.positionOf(k), 11 - k);
        }
        check.due("mirror()", x.mirror(), 0);
        check.due("the layout mirrored twice", Given.layout(x), ALPHABET);
        TypebarLayout y = loaded("gahbicjdkelf");
        y.mirror();
        check.due("the layout", Given.layout(y), "flekdjcibhag");
    }

    private static void mirrorForgetsSwaps() {
        check.sentence("Promise 14", "All swaps that could be undone are forgotten.");
        int[] counts = {0, 1, 29, 30, 31};
        for (int count : counts) {
            TypebarLayout x = new TypebarLayout();
            Given.swaps(x, 1, count);
            String before = Given.layout(x);
            check.due("mirror() behind " + count + " swaps", x.mirror(), 0);
            check.due("undoCount()", x.undoCount(), 0);
            check.due("undo()", x.undo(), Given.NONE);
            check.due("the layout", Given.layout(x), new StringBuilder(before).reverse().toString());
            x.swap(0, 11);
            check.due("undoCount() behind one swap more", x.undoCount(), 1);
            x.undo();
            check.due("undo()", x.undo(), Given.NONE);
        }
    }

    private static void mirrorCost() {
        check.sentence("Promise 14", "Returns the cost after it.");
        check.due("mirror() of a", Given.text("a").mirror(), 0);
        check.due("mirror() of abc", Given.text("abc").mirror(), 4);
        TypebarLayout x = Given.text("kl".repeat(30));
        x.setClashDistance(5);
        check.due("mirror() of the full text", x.mirror(), 295);
    }

    // ---- cost

    private static void closenessNotBelowZero() {
        check.sentence("Description", "C + 1 - distance, but not less than 0");
        for (int clash = 1; clash <= 5; clash++) {
            for (int p = 0; p < 12; p++) {
                for (int q = 0; q < 12; q++) {
                    TypebarLayout x = Given.text(Given.letters(p, q));
                    x.setClashDistance(clash);
                    int distance = Math.abs(p - q);
                    int want = distance == 0 || distance > clash ? 0 : clash + 1 - distance;
                    check.due("cost() of " + p + " and " + q + " with C " + clash, x.cost(), want);
                }
            }
        }
        // What is far apart takes nothing from what is close.
        check.due("cost() of abla", Given.text("abla").cost(), 2);
    }

    private static void costOfDifferentLetters() {
        check.sentence("Description", "over all pairs of successive keystrokes with different letters");
        for (int k = 0; k < 12; k++) {
            check.due("cost() of letter " + k + " twice", Given.text(Given.letters(k, k)).cost(), 0);
        }
        check.due("cost() of abb", Given.text("abb").cost(), 2);
        check.due("cost() of aab", Given.text("aab").cost(), 2);
        check.due("cost() of alb: a and b are not successive", Given.text("alb").cost(), 0);
        check.due("cost() of ba...: the last and the first are no pair", Given.text("bila").cost(), 0);
    }

    private static void costOfShortestAndLongestText() {
        check.sentence("Promise 15", "Returns the cost of the layout.");
        TypebarLayout x = new TypebarLayout();
        check.due("cost() of no text", x.cost(), 0);
        x.setClashDistance(5);
        int due = 0;
        for (int length = 1; length <= 60; length++) {
            x.append(length % 2 == 0 ? 'a' : 'b');
            check.due("cost() of " + length + " letters", x.cost(), due);
            due += 5;
        }
        x.append('b');
        check.due("cost() of the full text", x.cost(), 295);
        x.clearText();
        check.due("cost() of no text again", x.cost(), 0);
    }

    // ---- gain

    private static void gainRange() {
        check.sentence("Promise 16", "`first`: 0 to 11");
        TypebarLayout x = Given.text("abkl");
        check.due("gain(0, 11)", x.gain(0, 11), 4);
        check.due("gain(11, 0)", x.gain(11, 0), 4);
        check.due("gain(-1, 11)", x.gain(-1, 11), Given.RANGE);
        check.due("gain(12, 0)", x.gain(12, 0), Given.RANGE);
        check.due("gain(0, 12)", x.gain(0, 12), Given.RANGE);
        check.due("gain(11, -1)", x.gain(11, -1), Given.RANGE);
    }

    private static void gainOutOfRange() {
        check.sentence("Promise 16", "OUT_OF_RANGE if a position is out of range");
        for (int inside = 0; inside < 12; inside++) {
            TypebarLayout x = Given.text("abcabc");
            int p = inside;
            refusedOutside("gain(" + p + ", it)", w -> x.gain(p, w));
            refusedOutside("gain(it, " + p + ")", w -> x.gain(w, p));
        }
        for (int w : OUTSIDE) {
            refusedOutside("gain(" + w + ", it)", v -> new TypebarLayout().gain(w, v));
        }
    }

    private static void gainSamePosition() {
        check.sentence("Promise 16", "SAME_POSITION if the positions are equal.");
        TypebarLayout x = Given.text("abcabc");
        for (int p = 0; p < 12; p++) {
            check.due("gain(" + p + ", " + p + ")", x.gain(p, p), Given.SAME);
        }
    }

    private static void gainIsDifference() {
        check.sentence("Description", "The gain of a swap is the cost before it minus the cost after it.");
        for (int p = 0; p < 12; p++) {
            for (int q = 0; q < 12; q++) {
                if (p != q) {
                    TypebarLayout x = close(SIXTEEN_SWAPS, 5);
                    int gain = x.gain(p, q);
                    int before = x.cost();
                    check.due("gain(" + p + ", " + q + ")", gain, before - x.swap(p, q));
                    check.due("gain(" + p + ", " + q + ") of the way back", x.gain(p, q), -gain);
                }
            }
        }
    }

    private static void gainIsNotMade() {
        check.sentence("Promise 16", "Returns the gain of a swap, which is not made.");
        for (int p = 0; p < 12; p++) {
            TypebarLayout x = Given.busy();
            for (int q = 0; q < 12; q++) {
                x.gain(p, q);
            }
            check.holds("gain(" + p + ", it) changes nothing", Given.view(x).equals(Given.view(Given.busy())));
        }
    }

    private static void gainMayBeNegative() {
        check.sentence("Promise 16", "Returns the gain, which may be negative but is greater than every error code");
        TypebarLayout apart = Given.text("al".repeat(30));
        apart.setClashDistance(5);
        check.due("the least gain of all", apart.gain(1, 11), -295);
        check.due("the swap itself", apart.swap(1, 11), 295);
        check.due("the greatest gain of all", apart.gain(1, 11), 295);
        check.due("a gain of 0", apart.gain(5, 6), 0);
        check.due("a gain of -1", Given.text("ad").gain(2, 3), -1);
        check.due("a gain of 1", Given.text("ac").gain(2, 3), 1);
        check.due("a gain of no text", new TypebarLayout().gain(0, 11), 0);
        check.due("a gain of a", Given.text("a").gain(0, 11), 0);
    }

    // ---- bestSwap

    private static TypebarLayout close(String text, int clash) {
        TypebarLayout x = Given.text(text);
        x.setClashDistance(clash);
        return x;
    }

    private static void bestSwapCode() {
        check.sentence("Promise 17", "Returns 100 * smaller position + greater position");
        check.due("the least code: b is taken 5 from f", close("bf", 4).bestSwap(), 1);
        check.due("the greatest code: k is taken 6 from f", close("kfkg", 5).bestSwap(), 1011);
        check.due("the first and the last position", close("fa", 5).bestSwap(), 11);
        check.due("two figures in the greater position", close("hjhlk", 2).bestSwap(), 910);
    }

    private static void bestSwapGreatestGain() {
        check.sentence("Promise 17", "Finds the swap with the greatest gain.");
        // Many earlier swaps gain 2 here, the last one of all gains 3.
        TypebarLayout x = close("kfkg", 5);
        check.due("gain(0, 5)", x.gain(0, 5), 2);
        check.due("gain(10, 11)", x.gain(10, 11), 3);
        check.due("bestSwap()", x.bestSwap(), 1011);
        // A gain of 1 is enough.
        check.due("gain(0, 1)", close("bf", 4).gain(0, 1), 1);
        check.due("bestSwap()", close("bf", 4).bestSwap(), 1);
    }

    private static void bestSwapLowestSmaller() {
        check.sentence("Promise 17", "the one with the lowest smaller position is taken");
        TypebarLayout x = Given.text("abab");
        check.due("gain(0, 4)", x.gain(0, 4), 6);
        check.due("gain(1, 3), whose greater position is lower", x.gain(1, 3), 6);
        check.due("bestSwap()", x.bestSwap(), 4);
        TypebarLayout end = Given.text("kl");
        check.due("gain(0, 10)", end.gain(0, 10), 2);
        check.due("gain(7, 11)", end.gain(7, 11), 2);
        check.due("bestSwap()", end.bestSwap(), 10);
    }

    private static void bestSwapLowestGreater() {
        check.sentence("Promise 17", "of those, the one with the lowest greater position");
        TypebarLayout x = Given.text("abab");
        check.due("gain(0, 3)", x.gain(0, 3), 4 - 1);
        for (int q = 4; q < 12; q++) {
            check.due("gain(0, " + q + ")", x.gain(0, q), 6);
        }
        check.due("bestSwap()", x.bestSwap(), 4);
        TypebarLayout end = Given.text("kl");
        check.due("gain(0, 11)", end.gain(0, 11), 2);
        check.due("bestSwap()", end.bestSwap(), 10);
    }

    private static void bestSwapNothing() {
        check.sentence("Promise 17", "NOTHING if no swap has a gain above 0.");
        check.due("bestSwap() of no text", new TypebarLayout().bestSwap(), Given.NONE);
        check.due("bestSwap() of a", Given.text("a").bestSwap(), Given.NONE);
        check.due("bestSwap() of 60 a", Given.text("a".repeat(60)).bestSwap(), Given.NONE);
        check.due("bestSwap() of al: each gain is 0 or less", Given.text("al").bestSwap(), Given.NONE);
        TypebarLayout x = close(SIXTEEN_SWAPS, 5);
        x.improve(100);
        check.holds("the text still costs something", x.cost() > 0);
        int greatest = Given.MIN;
        for (int p = 0; p < 12; p++) {
            for (int q = p + 1; q < 12; q++) {
                greatest = Math.max(greatest, x.gain(p, q));
            }
        }
        check.due("the greatest gain", greatest, 0);
        check.due("bestSwap() of a text that costs something", x.bestSwap(), Given.NONE);
    }

    // ---- improve

    private static void improveLimitRange() {
        check.sentence("Promise 18", "`limit`: the greatest number of swaps, 0 to 100");
        TypebarLayout x = close(SIXTEEN_SWAPS, 5);
        check.due("improve(-1)", x.improve(-1), Given.RANGE);
        check.due("improve(0)", x.improve(0), 0);
        check.due("improve(101)", x.improve(101), Given.RANGE);
        check.due("undoCount()", x.undoCount(), 0);
        check.due("the layout", Given.layout(x), ALPHABET);
        check.due("improve(100)", x.improve(100), 16);
        check.due("improve(101) where no swap is left", x.improve(101), Given.RANGE);
        check.due("improve(-1) where no swap is left", x.improve(-1), Given.RANGE);
    }

    private static void improveOutOfRange() {
        check.sentence("Promise 18", "OUT_OF_RANGE if limit is out of range.");
        TypebarLayout x = close("abcabc", 5);
        int[] wrong = {-1, 101, -2, 102, -100, 256, 65536, Given.MIN, Given.MIN + 1, Given.MAX, Given.MAX - 1};
        for (int w : wrong) {
            check.due("improve(" + w + ")", x.improve(w), Given.RANGE);
            check.due("improve(" + w + ") of no text", new TypebarLayout().improve(w), Given.RANGE);
        }
        check.due("undoCount()", x.undoCount(), 0);
        check.due("the layout", Given.layout(x), ALPHABET);
    }

    private static void improveUntilLimit() {
        check.sentence("Promise 18", "or the limit is reached");
        for (int limit = 0; limit <= 16; limit++) {
            TypebarLayout x = close(SIXTEEN_SWAPS, 5);
            check.due("improve(" + limit + ")", x.improve(limit), limit);
            check.due("undoCount()", x.undoCount(), limit);
            check.holds("a swap is left just below 16", x.bestSwap() >= 0 == limit < 16);
        }
    }

    private static void improveUntilNoSwap() {
        check.sentence("Promise 18", "until there is no such swap");
        int[] limits = {16, 17, 99, 100};
        for (int limit : limits) {
            TypebarLayout x = close(SIXTEEN_SWAPS, 5);
            check.due("improve(" + limit + ")", x.improve(limit), 16);
            check.due("bestSwap()", x.bestSwap(), Given.NONE);
            check.due("improve(" + limit + ") again", x.improve(limit), 0);
            check.due("undoCount()", x.undoCount(), 16);
        }
        check.due("improve(100) of no text", new TypebarLayout().improve(100), 0);
        check.due("improve(100) of a", Given.text("a").improve(100), 0);
        check.due("improve(100) of al", Given.text("al").improve(100), 0);
        check.due("improve(100) of ab", Given.text("ab").improve(100), 1);
    }

    private static void improveMakesBestSwaps() {
        check.sentence("Promise 18", "Makes the swap that bestSwap finds, again and again");
        TypebarLayout x = close(SIXTEEN_SWAPS, 5);
        TypebarLayout y = close(SIXTEEN_SWAPS, 5);
        for (int k = 1; k <= 16; k++) {
            int best = y.bestSwap();
            check.due("improve(1)", x.improve(1), 1);
            check.due("cost()", x.cost(), y.swap(best / 100, best % 100));
            check.due("the layout", Given.layout(x), Given.layout(y));
        }
        check.holds("all is the same", Given.view(x).equals(Given.view(y)));
    }

    // ---- worstLetter

    private static void worstLetterMost() {
        check.sentence("Promise 19", "Finds the letter whose typebar takes part in most closeness");
        check.due("worstLetter() of klj", Given.text("klj").worstLetter(), 11);
        check.due("worstLetter() of bac", Given.text("bac").worstLetter(), 0);
        check.due("worstLetter() of ace: c takes part in both pairs", Given.text("ace").worstLetter(), 2);
        // d takes part in three pairs of closeness 1, f in two, b in one.
        check.due("worstLetter() of bdfd", Given.text("bdfd").worstLetter(), 3);
        // Few pairs that are very close come before many that are far apart.
        check.due("worstLetter() of alalalkj", Given.text("alalalkj").worstLetter(), 10);
        TypebarLayout full = Given.text("lk".repeat(30));
        full.clearText();
        Given.write(full, "ab");
        check.due("worstLetter() of ab, where there was more", full.worstLetter(), 0);
    }

    private static void worstLetterLowest() {
        check.sentence("Promise 19", "Of several such letters the lowest number is taken.");
        check.due("worstLetter() of ba", Given.text("ba").worstLetter(), 0);
        check.due("worstLetter() of lk", Given.text("lk").worstLetter(), 10);
        check.due("worstLetter() of edba: b and d", Given.text("edba").worstLetter(), 1);
        TypebarLayout x = Given.text("ab");
        x.mirror();
        check.due("worstLetter() of ab, where b has the lower position", x.worstLetter(), 0);
    }

    private static void worstLetterDifferentLetters() {
        check.sentence("Promise 19", "over all pairs of successive keystrokes with different letters, one of which is");
        check.due("worstLetter() of aaaakl", Given.text("aaaakl").worstLetter(), 10);
        check.due("worstLetter() of ggghhhk", Given.text("ggghhhk").worstLetter(), 6);
    }

    private static void worstLetterNothing() {
        check.sentence("Promise 19", "NOTHING if the cost is 0.");
        check.due("worstLetter() of no text", new TypebarLayout().worstLetter(), Given.NONE);
        check.due("worstLetter() of a", Given.text("a").worstLetter(), Given.NONE);
        check.due("worstLetter() of 60 l", Given.text("l".repeat(60)).worstLetter(), Given.NONE);
        check.due("worstLetter() of ad", Given.text("ad").worstLetter(), Given.NONE);
        check.due("worstLetter() of ac, which costs 1", Given.text("ac").worstLetter(), 0);
        TypebarLayout x = Given.text("ab");
        x.clearText();
        check.due("worstLetter() of a text that was cleared", x.worstLetter(), Given.NONE);
    }
}
