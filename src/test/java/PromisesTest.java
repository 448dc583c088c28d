/** Each promise of the document by itself: ordinary inputs, its edges, wrong inputs. */
public final class PromisesTest {
    private static final int BAD = -1000001;
    private static final int FULL = -1000002;
    private static final int RANGE = -1000003;
    private static final int NO_LAYOUT = -1000004;
    private static final int SAME = -1000005;
    private static final int NONE = -1000006;
    private static final int MIN = Integer.MIN_VALUE;
    private static final int MAX = Integer.MAX_VALUE;
    private static final String ABC_ROTATED = "bcdefghijkla";

    private static final Check check = new Check();

    public static void main(String[] args) {
        constants();
        newObject();
        append();
        clearText();
        pairCount();
        setTravelTime();
        setClashDistance();
        setClearingTime();
        loadLayout();
        loadLayoutRefused();
        letterAtAndPositionOf();
        swap();
        undo();
        undoForgetsTheOldest();
        undoAfterImprove();
        undoCount();
        mirror();
        cost();
        gain();
        bestSwap();
        improve();
        worstLetter();
        run();
        runJams();
        runResultsStay();
        jams();
        lost();
        duration();
        printedLetter();
        jammedKeystroke();
        safeInterval();
        digest();
        check.end();
    }

    private static void layoutIs(TypebarLayout x, String want) {
        String got = Given.layout(x);
        check.holds("the layout is " + want + ", it is " + got, got.equals(want));
        for (int p = 0; p < 12; p++) {
            check.due("positionOf(" + (want.charAt(p) - 'a') + ")", x.positionOf(want.charAt(p) - 'a'), p);
        }
    }

    private static void constants() {
        check.at("the constants");
        check.due("BAD_CHARACTER", TypebarLayout.BAD_CHARACTER, BAD);
        check.due("TEXT_FULL", TypebarLayout.TEXT_FULL, FULL);
        check.due("OUT_OF_RANGE", TypebarLayout.OUT_OF_RANGE, RANGE);
        check.due("NOT_A_LAYOUT", TypebarLayout.NOT_A_LAYOUT, NO_LAYOUT);
        check.due("SAME_POSITION", TypebarLayout.SAME_POSITION, SAME);
        check.due("NOTHING", TypebarLayout.NOTHING, NONE);
    }

    private static void newObject() {
        check.at("promise 1, a new object");
        TypebarLayout x = new TypebarLayout();
        layoutIs(x, "abcdefghijkl");
        check.due("cost()", x.cost(), 0);
        check.due("undoCount()", x.undoCount(), 0);
        check.due("jams()", x.jams(), 0);
        check.due("lost()", x.lost(), 0);
        check.due("duration()", x.duration(), 0);
        check.due("clearText()", x.clearText(), 0);
        check.due("setTravelTime(1)", x.setTravelTime(1), 4);
        check.due("setClashDistance(1)", x.setClashDistance(1), 2);
        check.due("setClearingTime(1)", x.setClearingTime(1), 10);
        x.append('a');
        check.due("the length of another object's text", new TypebarLayout().clearText(), 0);
    }

    private static void append() {
        check.at("promise 2, append");
        TypebarLayout x = new TypebarLayout();
        int[] bad = {96, 109, 'A', 'L', 0, 11, 12, -1, -97, 97 + 256, 97 + 65536, MIN, MAX};
        for (int ch : bad) {
            check.due("append(" + ch + ")", x.append(ch), BAD);
        }
        for (int k = 0; k < 60; k++) {
            int ch = 'a' + k % 12;
            check.due("append(" + ch + ")", x.append(ch), k + 1);
        }
        check.due("append to a full text", x.append('a'), FULL);
        check.due("append of a bad character to a full text", x.append('m'), BAD);
        check.due("pairs of l and a", x.pairCount(11, 0), 4);
        check.due("pairs of a and b", x.pairCount(0, 1), 5);
        check.due("clearText()", x.clearText(), 60);
        check.due("append after clearText", x.append('l'), 1);
        x.run(1);
        check.due("the letter that was appended", x.printedLetter(0), 11);
    }

    private static void clearText() {
        check.at("promise 3, clearText");
        TypebarLayout x = Given.text("abcab");
        x.swap(0, 1);
        x.run(1);
        int printed = x.printedLetter(0);
        int duration = x.duration();
        check.due("clearText()", x.clearText(), 5);
        check.due("cost()", x.cost(), 0);
        check.due("pairCount(0, 1)", x.pairCount(0, 1), 0);
        check.due("clearText()", x.clearText(), 0);
        layoutIs(x, "bacdefghijkl");
        check.due("undoCount()", x.undoCount(), 1);
        check.due("duration()", x.duration(), duration);
        check.due("printedLetter(0)", x.printedLetter(0), printed);
    }

    private static void pairCount() {
        check.at("promise 4, pairCount");
        TypebarLayout x = Given.text("abbaabc");
        check.due("pairCount(0, 1)", x.pairCount(0, 1), 3);
        check.due("pairCount(1, 0)", x.pairCount(1, 0), 3);
        check.due("pairCount(0, 0)", x.pairCount(0, 0), 1);
        check.due("pairCount(1, 1)", x.pairCount(1, 1), 1);
        check.due("pairCount(2, 1)", x.pairCount(2, 1), 1);
        check.due("pairCount(2, 2)", x.pairCount(2, 2), 0);
        check.due("pairCount(11, 11)", x.pairCount(11, 11), 0);
        x.swap(0, 11);
        check.due("pairCount(0, 1) in another layout", x.pairCount(0, 1), 3);
        int[] wrong = {-1, 12, MIN, MAX};
        for (int w : wrong) {
            check.due("pairCount(" + w + ", 0)", x.pairCount(w, 0), RANGE);
            check.due("pairCount(0, " + w + ")", x.pairCount(0, w), RANGE);
            check.due("pairCount(" + w + ", " + w + ")", x.pairCount(w, w), RANGE);
        }
        check.due("pairCount in a text that overlaps", Given.text("aaa").pairCount(0, 0), 2);
        check.due("pairCount in a text of one letter", Given.text("a").pairCount(0, 0), 0);
        check.due("pairCount in an empty text", new TypebarLayout().pairCount(0, 0), 0);
    }

    private static void setTravelTime() {
        check.at("promise 5, setTravelTime");
        TypebarLayout x = Given.text("aa");
        check.due("setTravelTime(1)", x.setTravelTime(1), 4);
        check.due("safeInterval()", x.safeInterval(), 1);
        check.due("setTravelTime(20)", x.setTravelTime(20), 1);
        check.due("safeInterval()", x.safeInterval(), 20);
        int[] wrong = {0, 21, -1, MIN, MAX};
        for (int w : wrong) {
            check.due("setTravelTime(" + w + ")", x.setTravelTime(w), RANGE);
        }
        check.due("setTravelTime(20)", x.setTravelTime(20), 20);
    }

    private static void setClashDistance() {
        check.at("promise 6, setClashDistance");
        TypebarLayout x = Given.text("af");
        check.due("setClashDistance(5)", x.setClashDistance(5), 2);
        check.due("cost()", x.cost(), 1);
        check.due("run(1)", x.run(1), 1);
        check.due("setClashDistance(4)", x.setClashDistance(4), 5);
        check.due("cost()", x.cost(), 0);
        check.due("run(1)", x.run(1), 2);
        check.due("setClashDistance(1)", x.setClashDistance(1), 4);
        int[] wrong = {0, 6, -1, MIN, MAX};
        for (int w : wrong) {
            check.due("setClashDistance(" + w + ")", x.setClashDistance(w), RANGE);
        }
        check.due("setClashDistance(1)", x.setClashDistance(1), 1);
    }

    private static void setClearingTime() {
        check.at("promise 7, setClearingTime");
        TypebarLayout x = Given.text("abab");
        check.due("setClearingTime(0)", x.setClearingTime(0), 10);
        x.run(2);
        check.due("duration()", x.duration(), 10);
        check.due("setClearingTime(50)", x.setClearingTime(50), 0);
        x.run(2);
        check.due("duration()", x.duration(), 60);
        int[] wrong = {-1, 51, MIN, MAX};
        for (int w : wrong) {
            check.due("setClearingTime(" + w + ")", x.setClearingTime(w), RANGE);
        }
        check.due("setClearingTime(7)", x.setClearingTime(7), 50);
    }

    private static void loadLayout() {
        check.at("promise 8, loadLayout");
        TypebarLayout x = Given.text("ab");
        x.run(1);
        x.clearText();
        x.swap(0, 1);
        Given.write(x, ABC_ROTATED);
        check.due("loadLayout()", x.loadLayout(), 12);
        layoutIs(x, ABC_ROTATED);
        check.due("undoCount()", x.undoCount(), 0);
        check.due("undo()", x.undo(), NONE);
        check.due("jams()", x.jams(), 1);
        check.due("clearText()", x.clearText(), 0);
        Given.write(x, "lab");
        // l and a are at 10 and 11 now, b is at 0.
        check.due("cost()", x.cost(), 2);
    }

    private static void loadLayoutRefused() {
        check.at("promise 8, loadLayout of another text");
        String[] texts = {
            "", "a", "abcdefghijk", "bbcdefghijkl", "abcdefghijkk", "aacdefghijkl", "abcdefghijkll", "abcdefghijkla",
            "llllllllllll", "abcdefghijklabcdefghijkl"
        };
        for (String text : texts) {
            TypebarLayout x = new TypebarLayout();
            x.swap(2, 9);
            Given.write(x, text);
            long before = x.digest();
            check.due("loadLayout() of '" + text + "'", x.loadLayout(), NO_LAYOUT);
            check.due("digest()", x.digest(), before);
            check.due("undoCount()", x.undoCount(), 1);
            check.due("clearText()", x.clearText(), text.length());
        }
        TypebarLayout x = Given.text("aaaaaaaaaaaal");
        x.clearText();
        Given.write(x, "abcdefghijkk");
        check.due("loadLayout() where the text before had an l", x.loadLayout(), NO_LAYOUT);
    }

    private static void letterAtAndPositionOf() {
        check.at("promises 9 and 10, letterAt and positionOf");
        TypebarLayout x = Given.text(ABC_ROTATED);
        x.loadLayout();
        check.due("letterAt(0)", x.letterAt(0), 1);
        check.due("letterAt(11)", x.letterAt(11), 0);
        check.due("positionOf(0)", x.positionOf(0), 11);
        check.due("positionOf(11)", x.positionOf(11), 10);
        int[] wrong = {-1, 12, 97, MIN, MAX};
        for (int w : wrong) {
            check.due("letterAt(" + w + ")", x.letterAt(w), RANGE);
            check.due("positionOf(" + w + ")", x.positionOf(w), RANGE);
        }
    }

    private static void swap() {
        check.at("promise 11, swap");
        TypebarLayout x = Given.text("abcabc");
        check.due("swap(0, 11)", x.swap(0, 11), 4);
        layoutIs(x, "lbcdefghijka");
        // These are positions, not letters: position 11 holds the letter a now.
        check.due("swap(11, 2)", x.swap(11, 2), 4);
        layoutIs(x, "lbadefghijkc");
        long before = x.digest();
        int[] wrong = {-1, 12, MIN, MAX};
        for (int w : wrong) {
            check.due("swap(" + w + ", 0)", x.swap(w, 0), RANGE);
            check.due("swap(0, " + w + ")", x.swap(0, w), RANGE);
            check.due("swap(" + w + ", " + w + ")", x.swap(w, w), RANGE);
        }
        for (int p = 0; p < 12; p++) {
            check.due("swap(" + p + ", " + p + ")", x.swap(p, p), SAME);
        }
        check.due("digest()", x.digest(), before);
        check.due("undoCount()", x.undoCount(), 2);
    }

    private static void undo() {
        check.at("promise 12, undo");
        TypebarLayout x = Given.text("abcabc");
        check.due("undo()", x.undo(), NONE);
        x.swap(0, 11);
        x.swap(11, 5);
        check.due("undo()", x.undo(), 4);
        layoutIs(x, "lbcdefghijka");
        x.swap(0, 1);
        check.due("undo()", x.undo(), 4);
        check.due("undo()", x.undo(), 9);
        layoutIs(x, "abcdefghijkl");
        check.due("undo()", x.undo(), NONE);
    }

    private static void undoForgetsTheOldest() {
        check.at("promise 12, undo of 33 swaps");
        TypebarLayout x = new TypebarLayout();
        // The layouts are worked out here, because asking for all of them would be too many calls.
        String[] layouts = new String[34];
        layouts[0] = "abcdefghijkl";
        for (int k = 1; k <= 33; k++) {
            int first = k * 5 % 12;
            int second = k * 7 % 11 == first ? 11 - first : k * 7 % 11;
            x.swap(first, second);
            layouts[k] = exchanged(layouts[k - 1], first, second);
            check.due("undoCount()", x.undoCount(), Math.min(k, 30));
        }
        for (int k = 32; k >= 3; k--) {
            check.due("undo()", x.undo(), 0);
            check.due("the layout", Given.layout(x), layouts[k]);
        }
        check.due("undo()", x.undo(), NONE);
        layoutIs(x, layouts[3]);
    }

    private static String exchanged(String layout, int first, int second) {
        char[] letters = layout.toCharArray();
        letters[first] = layout.charAt(second);
        letters[second] = layout.charAt(first);
        return new String(letters);
    }

    private static void undoAfterImprove() {
        check.at("promise 12, undo after improve");
        TypebarLayout x = Given.text("abcabc");
        x.swap(0, 11);
        check.due("improve(1)", x.improve(1), 1);
        check.due("undoCount()", x.undoCount(), 2);
        check.due("undo()", x.undo(), 4);
        layoutIs(x, "lbcdefghijka");
        check.due("undo()", x.undo(), 9);
        layoutIs(x, "abcdefghijkl");

        TypebarLayout full = new TypebarLayout();
        for (int k = 0; k < 30; k++) {
            full.swap(9, 10);
        }
        Given.write(full, "abab");
        check.due("improve(5)", full.improve(5), 1);
        check.due("undoCount()", full.undoCount(), 30);
        check.due("undo()", full.undo(), 6);
        check.due("undoCount()", full.undoCount(), 29);
    }

    private static void undoCount() {
        check.at("promise 13, undoCount");
        TypebarLayout x = Given.text("ab");
        x.gain(0, 1);
        x.bestSwap();
        x.swap(3, 3);
        x.swap(0, 12);
        check.due("undoCount()", x.undoCount(), 0);
        x.swap(0, 1);
        check.due("undoCount()", x.undoCount(), 1);
        x.swap(0, 1);
        check.due("undoCount()", x.undoCount(), 2);
        x.undo();
        check.due("undoCount()", x.undoCount(), 1);
        x.mirror();
        check.due("undoCount()", x.undoCount(), 0);
    }

    private static void mirror() {
        check.at("promise 14, mirror");
        TypebarLayout x = Given.text(ABC_ROTATED);
        x.loadLayout();
        Given.write(x, "abc");
        x.swap(0, 3);
        // a is at 0 then, b at 8 and c at 10: only bc is close.
        check.due("mirror()", x.mirror(), 1);
        layoutIs(x, "alkjihgfbdce");
        check.due("undoCount()", x.undoCount(), 0);
        check.due("undo()", x.undo(), NONE);
        x.mirror();
        layoutIs(x, "ecdbfghijkla");
        check.due("clearText()", x.clearText(), 3);
    }

    private static void cost() {
        check.at("promise 15, cost");
        check.due("cost() of no text", new TypebarLayout().cost(), 0);
        check.due("cost() of a", Given.text("a").cost(), 0);
        check.due("cost() of aaa", Given.text("aaa").cost(), 0);
        check.due("cost() of ab", Given.text("ab").cost(), 2);
        check.due("cost() of ba", Given.text("ba").cost(), 2);
        check.due("cost() of ac", Given.text("ac").cost(), 1);
        check.due("cost() of ad", Given.text("ad").cost(), 0);
        check.due("cost() of al", Given.text("al").cost(), 0);
        check.due("cost() of aabbac", Given.text("aabbac").cost(), 5);
        TypebarLayout wide = Given.text("abcdefg");
        wide.append('a');
        wide.append('f');
        wide.append('b');
        wide.setClashDistance(5);
        check.due("cost() of abcdefgafb", wide.cost(), 6 * 5 + 0 + 1 + 2);
        StringBuilder longest = new StringBuilder();
        for (int k = 0; k < 30; k++) {
            longest.append("ab");
        }
        TypebarLayout full = Given.text(longest.toString());
        full.setClashDistance(5);
        check.due("cost() of 30 times ab", full.cost(), 59 * 5);
    }

    private static void gain() {
        check.at("promise 16, gain");
        TypebarLayout x = Given.text("abcabc");
        long before = x.digest();
        check.due("gain(0, 11)", x.gain(0, 11), 5);
        check.due("gain(11, 0)", x.gain(11, 0), 5);
        check.due("gain(7, 8)", x.gain(7, 8), 0);
        check.due("digest()", x.digest(), before);
        TypebarLayout apart = Given.text("adad");
        check.due("gain(3, 1)", apart.gain(3, 1), -6);
        check.due("gain(2, 0)", apart.gain(2, 0), -6);
        apart.swap(0, 11);
        check.due("gain(0, 11) of the positions", apart.gain(0, 11), 0);
        check.due("gain(11, 4)", apart.gain(11, 4), -6);
        int[] wrong = {-1, 12, MIN, MAX};
        for (int w : wrong) {
            check.due("gain(" + w + ", 0)", x.gain(w, 0), RANGE);
            check.due("gain(0, " + w + ")", x.gain(0, w), RANGE);
            check.due("gain(" + w + ", " + w + ")", x.gain(w, w), RANGE);
        }
        for (int p = 0; p < 12; p++) {
            check.due("gain(" + p + ", " + p + ")", x.gain(p, p), SAME);
        }
    }

    private static void bestSwap() {
        check.at("promise 17, bestSwap");
        check.due("bestSwap() of no text", new TypebarLayout().bestSwap(), NONE);
        check.due("bestSwap() at cost 0", Given.text("adad").bestSwap(), NONE);
        // From 0 on, 4 is the first position that takes a far enough from b.
        check.due("bestSwap() of abab", Given.text("abab").bestSwap(), 4);
        check.due("bestSwap() of klkl", Given.text("klkl").bestSwap(), 10);
        check.due("bestSwap() of abcabc", Given.text("abcabc").bestSwap(), 105);
        TypebarLayout beside = Given.text("bg");
        beside.setClashDistance(5);
        check.due("bestSwap() of two positions side by side", beside.bestSwap(), 1);
        TypebarLayout x = Given.text("abcabc");
        long before = x.digest();
        x.bestSwap();
        check.due("digest()", x.digest(), before);
        // With C = 5 at most three letters can be clear of one another: some cost is left.
        TypebarLayout crowded = Given.text("abcdabdbcacd");
        crowded.setClashDistance(5);
        crowded.improve(100);
        check.holds("the crowded text costs something", crowded.cost() > 0);
        check.due("bestSwap() of the crowded text", crowded.bestSwap(), NONE);
        for (int p = 0; p < 12; p++) {
            for (int q = p + 1; q < 12; q++) {
                check.holds("no gain above 0 is left", crowded.gain(p, q) <= 0);
            }
        }
    }

    private static void improve() {
        check.at("promise 18, improve");
        TypebarLayout x = Given.text("abcabc");
        check.due("improve(0)", x.improve(0), 0);
        layoutIs(x, "abcdefghijkl");
        int[] wrong = {-1, 101, MIN, MAX};
        for (int w : wrong) {
            check.due("improve(" + w + ")", x.improve(w), RANGE);
        }
        check.due("undoCount()", x.undoCount(), 0);
        check.due("improve(1)", x.improve(1), 1);
        layoutIs(x, "afcdebghijkl");
        check.due("undoCount()", x.undoCount(), 1);
        check.due("improve(100)", x.improve(100), 1);
        check.due("cost()", x.cost(), 0);
        check.due("improve(100)", x.improve(100), 0);
        check.due("undoCount()", x.undoCount(), 2);
        check.due("improve(2) where two swaps are to be made", Given.text("abcabc").improve(2), 2);
    }

    private static void worstLetter() {
        check.at("promise 19, worstLetter");
        check.due("worstLetter() of no text", new TypebarLayout().worstLetter(), NONE);
        check.due("worstLetter() of aaaa", Given.text("aaaa").worstLetter(), NONE);
        check.due("worstLetter() of adad", Given.text("adad").worstLetter(), NONE);
        check.due("worstLetter() of ac", Given.text("ac").worstLetter(), 0);
        check.due("worstLetter() of abcb", Given.text("abcb").worstLetter(), 1);
        check.due("worstLetter() of lk", Given.text("lk").worstLetter(), 10);
        check.due("worstLetter() of abab", Given.text("abab").worstLetter(), 0);
        check.due("worstLetter() of aaaadkl", Given.text("aaaadkl").worstLetter(), 10);
        check.due("worstLetter() of gheg", Given.text("gheg").worstLetter(), 6);
        TypebarLayout x = Given.text("abcb");
        x.mirror();
        check.due("worstLetter() in a mirrored layout", x.worstLetter(), 1);
        x.swap(10, 0);
        check.due("worstLetter() where b is apart", x.worstLetter(), NONE);
        TypebarLayout shorter = Given.text("abcb");
        shorter.clearText();
        Given.write(shorter, "ab");
        check.due("worstLetter() of ab, which was abcb", shorter.worstLetter(), 0);
        check.due("cost() of ab, which was abcb", shorter.cost(), 2);
    }

    private static void run() {
        check.at("promise 20, run");
        TypebarLayout x = Given.text("aaa");
        check.due("run(3)", x.run(3), 2);
        check.due("run(1)", x.run(1), 1);
        int[] wrong = {0, 31, -1, MIN, MAX};
        for (int w : wrong) {
            check.due("run(" + w + ")", x.run(w), RANGE);
        }
        check.due("lost()", x.lost(), 2);
        check.due("duration()", x.duration(), 6);
        check.due("run(30)", x.run(30), 3);
        check.due("duration()", x.duration(), 64);
        x.clearText();
        check.due("run(1) of no text", x.run(1), 0);
        check.due("printedLetter(0)", x.printedLetter(0), NONE);
        Given.write(x, "adgj");
        check.due("run(1) of typebars apart", x.run(1), 4);
        check.due("run(1) again", x.run(1), 4);
    }

    private static void runJams() {
        check.at("promise 20, run into jams");
        // c jams with a and e at once: both stop, c does not start, so a and e can be printed again.
        TypebarLayout both = Given.text("aecaec");
        both.setTravelTime(10);
        both.setClearingTime(0);
        check.due("run(1) of aecaec", both.run(1), 4);
        check.due("jams()", both.jams(), 2);
        check.due("lost()", both.lost(), 0);
        // l is far from the jam and goes on: its second keystroke is lost.
        TypebarLayout far = Given.text("albl");
        far.setTravelTime(10);
        far.setClearingTime(0);
        check.due("run(1) of albl", far.run(1), 2);
        check.due("jams()", far.jams(), 1);
        check.due("lost()", far.lost(), 1);
        // A jammed typebar is at rest: the same key prints next.
        TypebarLayout again = Given.text("abb");
        again.setTravelTime(10);
        again.setClearingTime(0);
        check.due("run(1) of abb", again.run(1), 2);
        check.due("printedLetter(1)", again.printedLetter(1), 1);
        // The distance C itself jams, C + 1 does not; the layout decides, not the letters.
        check.due("run(1) of ac", Given.text("ac").run(1), 1);
        check.due("run(1) of ca", Given.text("ca").run(1), 1);
        check.due("run(1) of lj", Given.text("lj").run(1), 1);
        check.due("run(1) of jl", Given.text("jl").run(1), 1);
        check.due("run(1) of ad", Given.text("ad").run(1), 2);
        TypebarLayout moved = Given.text("ad");
        moved.swap(3, 2);
        check.due("run(1) of ad, with d beside a", moved.run(1), 1);
        // The clearing time comes once, behind the jam alone: a 0, b 1, l 12, l 13.
        TypebarLayout once = Given.text("abll");
        check.due("run(1) of abll", once.run(1), 2);
        check.due("duration()", once.duration(), 17);
    }

    private static void runResultsStay() {
        check.at("promise 20, results stay");
        TypebarLayout x = Given.text("abaa");
        x.run(2);
        check.due("jams()", x.jams(), 1);
        check.due("lost()", x.lost(), 1);
        x.setTravelTime(20);
        x.setClashDistance(5);
        x.setClearingTime(50);
        x.swap(0, 11);
        x.append('c');
        x.mirror();
        x.safeInterval();
        x.clearText();
        Given.write(x, ABC_ROTATED);
        x.loadLayout();
        x.run(31);
        check.due("jams()", x.jams(), 1);
        check.due("lost()", x.lost(), 1);
        check.due("duration()", x.duration(), 20);
        check.due("printedLetter(0)", x.printedLetter(0), 0);
        check.due("printedLetter(1)", x.printedLetter(1), 0);
        check.due("printedLetter(2)", x.printedLetter(2), NONE);
        check.due("jammedKeystroke(0)", x.jammedKeystroke(0), 1);
    }

    private static void jams() {
        check.at("promise 21, jams");
        TypebarLayout x = Given.text("abab");
        check.due("jams() before a run", x.jams(), 0);
        x.run(2);
        check.due("jams()", x.jams(), 2);
        x.run(4);
        check.due("jams()", x.jams(), 0);
        x.run(3);
        check.due("jams()", x.jams(), 2);
    }

    private static void lost() {
        check.at("promise 22, lost");
        TypebarLayout x = Given.text("aaaaa");
        check.due("lost() before a run", x.lost(), 0);
        x.run(1);
        check.due("lost()", x.lost(), 3);
        x.run(3);
        check.due("lost()", x.lost(), 2);
        x.run(4);
        check.due("lost()", x.lost(), 0);
        check.due("jams()", x.jams(), 0);
    }

    private static void duration() {
        check.at("promise 23, duration");
        TypebarLayout x = new TypebarLayout();
        check.due("duration() before a run", x.duration(), 0);
        x.run(5);
        check.due("duration() of no text", x.duration(), 0);
        x.append('a');
        x.run(30);
        check.due("duration() of a", x.duration(), 4);
        x.append('a');
        x.run(1);
        check.due("duration() with a lost keystroke last", x.duration(), 5);
        x.clearText();
        Given.write(x, "ab");
        x.run(1);
        check.due("duration() with a jammed keystroke last", x.duration(), 5);
        x.setTravelTime(9);
        check.due("duration() with another travel time since", x.duration(), 5);
        x.run(10);
        check.due("duration() with the travel time 9", x.duration(), 19);
        x.clearText();
        x.run(1);
        check.due("duration() of no text again", x.duration(), 0);
    }

    private static void printedLetter() {
        check.at("promise 24, printedLetter");
        TypebarLayout x = Given.text("lgba");
        check.due("printedLetter(0) before a run", x.printedLetter(0), NONE);
        x.run(1);
        check.due("printedLetter(0)", x.printedLetter(0), 11);
        check.due("printedLetter(1)", x.printedLetter(1), 6);
        check.due("printedLetter(2)", x.printedLetter(2), 1);
        int[] wrong = {3, 4, 60, -1, MIN, MAX};
        for (int w : wrong) {
            check.due("printedLetter(" + w + ")", x.printedLetter(w), NONE);
        }
        x.clearText();
        Given.write(x, "abcdefghijklabcdefghijklabcdefghijklabcdefghijklabcdefghijkl");
        check.due("run(30)", x.run(30), 60);
        for (int k = 0; k < 60; k++) {
            check.due("printedLetter(" + k + ")", x.printedLetter(k), k % 12);
        }
        check.due("printedLetter(60)", x.printedLetter(60), NONE);
    }

    private static void jammedKeystroke() {
        check.at("promise 25, jammedKeystroke");
        TypebarLayout x = Given.text("ababab");
        check.due("jammedKeystroke(0) before a run", x.jammedKeystroke(0), NONE);
        x.run(1);
        check.due("jammedKeystroke(0)", x.jammedKeystroke(0), 1);
        check.due("jammedKeystroke(1)", x.jammedKeystroke(1), 3);
        check.due("jammedKeystroke(2)", x.jammedKeystroke(2), 5);
        int[] wrong = {3, 60, -1, MIN, MAX};
        for (int w : wrong) {
            check.due("jammedKeystroke(" + w + ")", x.jammedKeystroke(w), NONE);
        }
        x.run(4);
        check.due("jammedKeystroke(0) without a jam", x.jammedKeystroke(0), NONE);
    }

    private static void safeInterval() {
        check.at("promise 26, safeInterval");
        check.due("safeInterval() of no text", new TypebarLayout().safeInterval(), 1);
        check.due("safeInterval() of a", Given.text("a").safeInterval(), 1);
        check.due("safeInterval() of aa", Given.text("aa").safeInterval(), 4);
        check.due("safeInterval() of ab", Given.text("ab").safeInterval(), 4);
        check.due("safeInterval() of ada", Given.text("ada").safeInterval(), 2);
        check.due("safeInterval() of adgb", Given.text("adgb").safeInterval(), 2);
        check.due("safeInterval() of adgj", Given.text("adgj").safeInterval(), 1);
        TypebarLayout x = Given.text("adad");
        x.setTravelTime(20);
        check.due("safeInterval() with the travel time 20", x.safeInterval(), 10);
        x.run(1);
        long before = x.digest();
        int lost = x.lost();
        x.safeInterval();
        check.due("lost()", x.lost(), lost);
        check.due("duration()", x.duration(), 23);
        check.due("digest()", x.digest(), before);
    }

    private static long hash(long... values) {
        long hash = 1783;
        for (long v : values) {
            hash = 31 * hash + v;
        }
        return hash;
    }

    private static void digest() {
        check.at("promise 27, digest");
        TypebarLayout x = new TypebarLayout();
        check.due("digest() of a new object", x.digest(),
            hash(0, 4, 2, 10, 0, 1, 2, 3, 4, 5, 6, 7, 8, 9, 10, 11, 0, 0, NONE, NONE, 1, 0, 0, 0, 0));
        Given.write(x, "abaa");
        x.setClearingTime(11);
        x.setTravelTime(5);
        x.setClashDistance(3);
        x.run(2);
        x.swap(5, 11);
        // ab, ba: closeness 3 each; a is first taken to position 5, which is 4 from b.
        // a 0, b 2 jammed, a 15, a 17 lost: the duration is 22.
        check.due("digest() of a used object", x.digest(),
            hash(4, 0, 1, 0, 0, 5, 3, 11, 0, 1, 2, 3, 4, 11, 6, 7, 8, 9, 10, 5, 1,
                6, 5, 0, 5, 1, 1, 22, 2, 0, 0, 1));
        check.due("digest() again", x.digest(), x.digest());
    }
}
