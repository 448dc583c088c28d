import java.util.function.Consumer;

/** The boundary cases that the document names for typing: 'Typing' and promises 20 to 26. */
public final class BoundaryTypingTest {
    private static final int[] FAR_INDEXES = {
        -1, -2, 60, 61, 256, 65536, Given.MIN, Given.MIN + 1, Given.MAX, Given.MAX - 1
    };

    private static final Check check = new Check();

    public static void main(String[] args) {
        keystrokeNumbers();
        keystrokeZero();
        laterKeystroke();
        clearingTimeBehindJam();
        lostWhileInMotion();
        lostHasNoFurtherEffect();
        lostBeforeJammed();
        jamAtMostC();
        jamStopsAllNear();
        jamLeavesFarOnes();
        jamDoesNotStart();
        motionBothIncluded();
        motionStoppedByJam();
        runInterval();
        runOutOfRange();
        runReplacesResults();
        runResultsStay();
        runPrintedNumber();
        jamsBeforeFirstRun();
        jamsNumber();
        lostBeforeFirstRun();
        lostNumber();
        durationLastKeystroke();
        durationEmptyText();
        printedLetterIndex();
        printedLetterNothing();
        jammedKeystrokeIndex();
        jammedKeystrokeNothing();
        safeIntervalLeast();
        safeIntervalJammedAndLost();
        safeIntervalEnds();
        safeIntervalKeepsResults();
        check.end();
    }

    /** What a run tells: printed, jammed and lost keystrokes, and the duration. */
    private static void ran(String what, TypebarLayout x, int interval, int... printedJamsLostDuration) {
        String call = "run(" + interval + ") of " + what;
        check.due(call, x.run(interval), printedJamsLostDuration[0]);
        check.due(call + ", jams()", x.jams(), printedJamsLostDuration[1]);
        check.due(call + ", lost()", x.lost(), printedJamsLostDuration[2]);
        check.due(call + ", duration()", x.duration(), printedJamsLostDuration[3]);
    }

    // ---- Typing

    private static void keystrokeNumbers() {
        check.sentence("Description", "keystrokes are numbered from 0");
        // The first that can be jammed is number 1, the last of a full text is number 59.
        TypebarLayout x = Given.text("ab");
        x.run(1);
        check.due("jammedKeystroke(0) of ab", x.jammedKeystroke(0), 1);
        TypebarLayout full = Given.text("adgj".repeat(14) + "adgf");
        full.run(1);
        check.due("jams() where the last keystroke is jammed", full.jams(), 1);
        check.due("jammedKeystroke(0)", full.jammedKeystroke(0), 59);
    }

    private static void keystrokeZero() {
        check.sentence("Description", "Keystroke 0 is made at tick 0.");
        for (int travel = 1; travel <= 20; travel++) {
            ran("a, T " + travel, Given.text("a", travel, 2, 50), 30, 1, 0, 0, travel);
        }
    }

    private static void laterKeystroke() {
        check.sentence("Description", "Each later keystroke is made an interval after the keystroke before it");
        for (int interval = 1; interval <= 30; interval++) {
            ran("al", Given.text("al"), interval, 2, 0, 0, interval + 4);
            TypebarLayout x = Given.text("a".repeat(60), 1, 1, 50);
            ran("60 a", x, interval, 60, 0, 0, 59 * interval + 1);
        }
    }

    private static void clearingTimeBehindJam() {
        check.sentence("Description", "plus the clearing time if the keystroke before it was jammed");
        int[] times = {0, 1, 10, 50};
        for (int time : times) {
            // Behind the last keystroke there is none.
            ran("ab", Given.text("ab", 4, 2, time), 1, 1, 1, 0, 1 + 4);
            ran("abl", Given.text("abl", 4, 2, time), 1, 2, 1, 0, 1 + time + 1 + 4);
            // It comes once for each jam, and not behind the keystroke behind the jam.
            ran("ablf", Given.text("ablf", 4, 2, time), 1, 3, 1, 0, 1 + time + 1 + 1 + 4);
            ran("ababl", Given.text("ababl", 4, 2, time), 1, 3, 2, 0, 2 * (1 + time + 1) + 4);
        }
        // The typebars that no jam stopped come to rest in that time: l moves from tick 1 to 20.
        ran("albl with 16", Given.text("albl", 20, 2, 16), 1, 2, 1, 1, 1 + 1 + 16 + 1 + 20);
        ran("albl with 17", Given.text("albl", 20, 2, 17), 1, 2, 1, 1, 1 + 1 + 17 + 1 + 20);
        ran("albl with 18", Given.text("albl", 20, 2, 18), 1, 3, 1, 0, 1 + 1 + 18 + 1 + 20);
    }

    private static void lostWhileInMotion() {
        check.sentence("Description", "(1) If the typebar of the letter is in motion, the keystroke is lost");
        for (int k = 0; k < 12; k++) {
            ran("letter " + k + " twice", Given.text(Given.letters(k, k)), 1, 1, 0, 1, 5);
            ran("letter " + k + " twice", Given.text(Given.letters(k, k)), 3, 1, 0, 1, 7);
            ran("letter " + k + " twice", Given.text(Given.letters(k, k)), 4, 2, 0, 0, 8);
        }
        // It is lost, not jammed, however near its own typebar is.
        ran("aa with C 5", Given.text("aa", 20, 5, 50), 19, 1, 0, 1, 39);
    }

    private static void lostHasNoFurtherEffect() {
        check.sentence("Description", "the keystroke is lost and has no further effect");
        // It does not move the typebar for longer: a 0 to 3, lost at 3, printed at 6.
        ran("aaa", Given.text("aaa"), 3, 2, 0, 1, 6 + 4);
        // Lost at 1, 2, 3 and printed at 4.
        ran("aaaaa", Given.text("aaaaa"), 1, 2, 0, 3, 4 + 4);
        // It does not stop the typebar either: b is still jammed.
        ran("aab", Given.text("aab"), 1, 1, 1, 1, 2 + 4);
        // It costs no clearing time, at once or later.
        ran("aal", Given.text("aal", 4, 2, 50), 1, 2, 0, 1, 2 + 4);
    }

    private static void lostBeforeJammed() {
        check.sentence("Description", "A keystroke at tick t has one of three outcomes, which are checked in this order.");
        // Its own typebar is at the distance 0, which is at most C: it is lost all the same.
        for (int clash = 1; clash <= 5; clash++) {
            ran("aa with C " + clash, Given.text("aa", 20, clash, 50), 1, 1, 0, 1, 1 + 20);
            ran("aaa with C " + clash, Given.text("aaa", 20, clash, 50), 1, 1, 0, 2, 2 + 20);
        }
        // Each keystroke has one outcome: the three numbers make up the text.
        for (int interval = 1; interval <= 30; interval++) {
            TypebarLayout x = Given.busy();
            check.due("all outcomes", x.run(interval) + x.jams() + x.lost(), 60);
        }
    }

    private static void jamAtMostC() {
        check.sentence("Description", "(2) If some typebar in motion is at a distance of at most C");
        for (int clash = 1; clash <= 5; clash++) {
            for (int p = 0; p < 12; p++) {
                for (int q = 0; q < 12; q++) {
                    int distance = Math.abs(p - q);
                    int jammed = distance > 0 && distance <= clash ? 1 : 0;
                    int lost = distance == 0 ? 1 : 0;
                    TypebarLayout x = Given.text(Given.letters(p, q), 4, clash, 10);
                    ran(p + " and " + q + " with C " + clash, x, 1, 2 - jammed - lost, jammed, lost, 5);
                }
            }
        }
        // The distance is that of the positions, not of the letters.
        TypebarLayout x = Given.text("al");
        x.swap(11, 2);
        ran("al with l at 2", x, 1, 1, 1, 0, 5);
        x.swap(2, 3);
        ran("al with l at 3", x, 1, 2, 0, 0, 5);
    }

    private static void jamStopsAllNear() {
        check.sentence("Description", "all typebars in motion at a distance of at most C from it stop being in motion");
        for (int clash = 1; clash <= 5; clash++) {
            // Both at the distance C, one on each side: both can be printed again.
            String text = Given.letters(0, 2 * clash, clash, 0, 2 * clash);
            TypebarLayout x = Given.text(text, 20, clash, 0);
            ran(text + " with C " + clash, x, 1, 4, 1, 0, 4 + 20);
        }
        // Both beside it.
        ran("acbac", Given.text("acbac", 20, 1, 0), 1, 4, 1, 0, 4 + 20);
        // Six typebars in motion, and three jams that stop two of them each.
        ran("acegikbfjacegik", Given.text("acegikbfjacegik", 20, 1, 0), 1, 12, 3, 0, 14 + 20);
    }

    private static void jamLeavesFarOnes() {
        check.sentence("Description", "at a distance of at most C from it stop being in motion");
        for (int clash = 1; clash <= 5; clash++) {
            int far = 2 * clash + 1;
            String low = Given.letters(0, far, clash, far, 0);
            ran(low + " with C " + clash, Given.text(low, 20, clash, 0), 1, 3, 1, 1, 4 + 20);
            String high = Given.letters(11, 11 - far, 11 - clash, 11 - far, 11);
            ran(high + " with C " + clash, Given.text(high, 20, clash, 0), 1, 3, 1, 1, 4 + 20);
        }
        // The first and the last position are not side by side.
        ran("alal", Given.text("alal", 20, 5, 0), 1, 2, 0, 2, 3 + 20);
        ran("albl", Given.text("albl", 20, 5, 0), 1, 2, 1, 1, 3 + 20);
        ran("laka", Given.text("laka", 20, 5, 0), 1, 2, 1, 1, 3 + 20);
    }

    private static void jamDoesNotStart() {
        check.sentence("Description", "The typebar of the letter does not start to move.");
        ran("abb: the second b is printed", Given.text("abb", 20, 2, 0), 1, 2, 1, 0, 2 + 20);
        ran("aba: b is not in a's way", Given.text("aba", 20, 2, 0), 1, 2, 1, 0, 2 + 20);
        ran("abc: b is not in c's way", Given.text("abc", 20, 2, 0), 1, 2, 1, 0, 2 + 20);
        TypebarLayout x = Given.text("abb", 20, 2, 0);
        x.run(1);
        check.due("printedLetter(1)", x.printedLetter(1), 1);
    }

    private static void motionBothIncluded() {
        check.sentence("Description", "in motion from tick t to tick t + T - 1, both included");
        for (int travel = 1; travel <= 20; travel++) {
            for (int interval = 1; interval <= 30; interval++) {
                boolean moving = interval <= travel - 1;
                String with = ", T " + travel;
                ran("aa" + with, Given.text("aa", travel, 2, 10), interval,
                    moving ? 1 : 2, 0, moving ? 1 : 0, interval + travel);
                ran("ab" + with, Given.text("ab", travel, 2, 10), interval,
                    moving ? 1 : 2, moving ? 1 : 0, 0, interval + travel);
            }
        }
        // The later keystroke of a typebar moves it anew, from its own tick.
        ran("aaaa", Given.text("aaaa"), 2, 2, 0, 2, 6 + 4);
    }

    private static void motionStoppedByJam() {
        check.sentence("Description", "unless a jam stops it");
        ran("aba", Given.text("aba", 20, 2, 0), 1, 2, 1, 0, 2 + 20);
        ran("abc", Given.text("abc", 20, 5, 0), 1, 2, 1, 0, 2 + 20);
        // What starts behind the jam moves for T ticks again.
        ran("abaa", Given.text("abaa", 20, 2, 0), 19, 2, 1, 1, 57 + 20);
        ran("abaa", Given.text("abaa", 20, 2, 0), 20, 4, 0, 0, 60 + 20);
    }

    // ---- run

    private static void runInterval() {
        check.sentence("Promise 20", "`interval`: ticks between keystrokes, 1 to 30");
        TypebarLayout x = Given.text("adl");
        check.due("run(0)", x.run(0), Given.RANGE);
        check.due("run(1)", x.run(1), 3);
        check.due("duration()", x.duration(), 2 + 4);
        check.due("run(30)", x.run(30), 3);
        check.due("duration()", x.duration(), 60 + 4);
        check.due("run(31)", x.run(31), Given.RANGE);
        check.due("duration()", x.duration(), 60 + 4);
    }

    private static void runOutOfRange() {
        check.sentence("Promise 20", "OUT_OF_RANGE if interval is out of range.");
        TypebarLayout[] objects = {new TypebarLayout(), Given.text("a"), Given.busy()};
        int[] wrong = {0, 31, -1, -2, 32, -30, 257, 65537, Given.MIN, Given.MIN + 1, Given.MAX, Given.MAX - 1};
        for (TypebarLayout x : objects) {
            int jams = x.jams();
            int lost = x.lost();
            int duration = x.duration();
            for (int w : wrong) {
                check.due("run(" + w + ")", x.run(w), Given.RANGE);
                check.due("jams()", x.jams(), jams);
                check.due("lost()", x.lost(), lost);
                check.due("duration()", x.duration(), duration);
            }
        }
    }

    private static void runReplacesResults() {
        check.sentence("Promise 20", "The results of the previous run are replaced");
        TypebarLayout x = Given.text("abaalbcdekl");
        // a 0, b 1 jammed, a 12, a 13 lost, l 14, b 15 jammed, c 26, d 27 jammed, e 38, k 39, l 40 jammed.
        ran("abaalbcdekl", x, 1, 6, 4, 1, 40 + 4);
        x.clearText();
        x.append('l');
        ran("l", x, 1, 1, 0, 0, 4);
        check.due("printedLetter(0)", x.printedLetter(0), 11);
        check.due("printedLetter(1)", x.printedLetter(1), Given.NONE);
        check.due("jammedKeystroke(0)", x.jammedKeystroke(0), Given.NONE);
        x.clearText();
        ran("no text", x, 1, 0, 0, 0, 0);
        check.due("printedLetter(0)", x.printedLetter(0), Given.NONE);
        // No typebar is in motion still from the run before.
        Given.write(x, "adgj");
        ran("adgj", x, 1, 4, 0, 0, 3 + 4);
        ran("adgj again", x, 1, 4, 0, 0, 3 + 4);
    }

    private static void stays(String what, Consumer<TypebarLayout> change) {
        TypebarLayout x = Given.text("abaalfgfa");
        x.swap(2, 3);
        // a 0, b 2 jammed, a 14, a 16 lost, l 18, f 20, g 22 jammed, f 34, a 36.
        ran("abaalfgfa", x, 2, 6, 2, 1, 36 + 4);
        change.accept(x);
        check.due("jams() behind " + what, x.jams(), 2);
        check.due("lost() behind " + what, x.lost(), 1);
        check.due("duration() behind " + what, x.duration(), 40);
        int[] printed = {0, 0, 11, 5, 5, 0, Given.NONE, Given.NONE};
        for (int k = 0; k < printed.length; k++) {
            check.due("printedLetter(" + k + ") behind " + what, x.printedLetter(k), printed[k]);
        }
        int[] jammed = {1, 6, Given.NONE, Given.NONE};
        for (int k = 0; k < jammed.length; k++) {
            check.due("jammedKeystroke(" + k + ") behind " + what, x.jammedKeystroke(k), jammed[k]);
        }
    }

    private static void runResultsStay() {
        check.sentence("Promise 20", "they stay until the next run, even if the text, the layout or a parameter changes");
        stays("nothing", x -> { });
        stays("append", x -> x.append('c'));
        stays("a full text", x -> Given.write(x, "c".repeat(60)));
        stays("clearText", TypebarLayout::clearText);
        stays("setTravelTime", x -> x.setTravelTime(20));
        stays("setClashDistance", x -> x.setClashDistance(5));
        stays("setClearingTime", x -> x.setClearingTime(50));
        stays("swap", x -> x.swap(0, 11));
        stays("undo", TypebarLayout::undo);
        stays("mirror", TypebarLayout::mirror);
        stays("improve", x -> x.improve(100));
        stays("gain", x -> x.gain(0, 11));
        stays("safeInterval", TypebarLayout::safeInterval);
        stays("digest", TypebarLayout::digest);
        stays("run(0)", x -> x.run(0));
        stays("run(31)", x -> x.run(31));
        stays("loadLayout", x -> {
            x.clearText();
            Given.write(x, "lkjihgfedcba");
            check.due("loadLayout()", x.loadLayout(), 12);
        });
    }

    private static void runPrintedNumber() {
        check.sentence("Promise 20", "Returns the number of printed letters");
        check.due("run(1) of no text", new TypebarLayout().run(1), 0);
        check.due("run(30) of no text", new TypebarLayout().run(30), 0);
        check.due("run(1) of l", Given.text("l").run(1), 1);
        check.due("run(4) of 60 letters", Given.text("abc".repeat(20)).run(4), 60);
        check.due("run(3) of 60 letters", Given.text("ab".repeat(30)).run(3), 30);
        check.due("run(1) of 60 letters", Given.text("a".repeat(60)).run(1), 15);
    }

    // ---- jams and lost

    private static void jamsBeforeFirstRun() {
        check.sentence("Promise 21", "0 before the first run.");
        TypebarLayout x = Given.text("abab");
        check.due("jams()", x.jams(), 0);
        x.safeInterval();
        x.digest();
        x.run(0);
        x.run(31);
        check.due("jams() behind refused runs", x.jams(), 0);
    }

    private static void jamsNumber() {
        check.sentence("Promise 21", "Returns the number of jammed keystrokes of the latest run.");
        TypebarLayout x = new TypebarLayout();
        x.run(1);
        check.due("jams() of no text", x.jams(), 0);
        x.append('a');
        x.run(1);
        check.due("jams() of a", x.jams(), 0);
        x.append('b');
        x.run(1);
        check.due("jams() of ab", x.jams(), 1);
        x.run(4);
        check.due("jams() of ab, run(4)", x.jams(), 0);
        TypebarLayout full = Given.text("ab".repeat(30));
        full.run(1);
        check.due("jams() of 60 letters", full.jams(), 30);
    }

    private static void lostBeforeFirstRun() {
        check.sentence("Promise 22", "0 before the first run.");
        TypebarLayout x = Given.text("aaaa");
        check.due("lost()", x.lost(), 0);
        x.safeInterval();
        x.digest();
        x.run(0);
        x.run(31);
        check.due("lost() behind refused runs", x.lost(), 0);
    }

    private static void lostNumber() {
        check.sentence("Promise 22", "Returns the number of lost keystrokes of the latest run.");
        TypebarLayout x = new TypebarLayout();
        x.run(1);
        check.due("lost() of no text", x.lost(), 0);
        x.append('a');
        x.run(1);
        check.due("lost() of a", x.lost(), 0);
        x.append('a');
        x.run(1);
        check.due("lost() of aa", x.lost(), 1);
        x.run(4);
        check.due("lost() of aa, run(4)", x.lost(), 0);
        TypebarLayout full = Given.text("a".repeat(60), 20, 2, 10);
        full.run(1);
        check.due("lost() of 60 letters", full.lost(), 57);
    }

    // ---- duration

    private static void durationLastKeystroke() {
        check.sentence("Promise 23", "the tick of its last keystroke plus T");
        ran("a", Given.text("a", 1, 2, 10), 30, 1, 0, 0, 1);
        ran("a", Given.text("a", 20, 2, 10), 1, 1, 0, 0, 20);
        ran("aa, the last one lost", Given.text("aa"), 1, 1, 0, 1, 1 + 4);
        ran("ab, the last one jammed", Given.text("ab"), 1, 1, 1, 0, 1 + 4);
        // The longest of all: a jam at every second keystroke.
        ran("30 ab", Given.text("ab".repeat(30), 20, 5, 50), 19, 30, 30, 0, 59 * 19 + 29 * 50 + 20);
        ran("60 a", Given.text("a".repeat(60), 20, 5, 50), 30, 60, 0, 0, 59 * 30 + 20);
        // It is the T of the run.
        TypebarLayout x = Given.text("al");
        x.run(5);
        x.setTravelTime(20);
        check.due("duration() with another T since", x.duration(), 9);
        x.run(5);
        check.due("duration() of a run with it", x.duration(), 25);
    }

    private static void durationEmptyText() {
        check.sentence("Promise 23", "0 if the text was empty or before the first run.");
        TypebarLayout x = new TypebarLayout();
        check.due("duration() before the first run", x.duration(), 0);
        x.append('a');
        x.safeInterval();
        x.run(0);
        x.run(31);
        check.due("duration() behind refused runs", x.duration(), 0);
        x.clearText();
        x.run(30);
        check.due("duration() of no text", x.duration(), 0);
        x.append('a');
        check.due("duration() where the text was empty", x.duration(), 0);
        x.run(30);
        check.due("duration() of a", x.duration(), 4);
        x.clearText();
        check.due("duration() where the text was a", x.duration(), 4);
        x.run(30);
        check.due("duration() of no text again", x.duration(), 0);
    }

    // ---- printedLetter and jammedKeystroke

    private static void printedLetterIndex() {
        check.sentence("Promise 24", "index of the letter among the printed letters, from 0");
        TypebarLayout x = Given.text("abaal");
        x.run(1);
        // a, b jammed, a, a lost, l.
        check.due("printedLetter(-1)", x.printedLetter(-1), Given.NONE);
        check.due("printedLetter(0)", x.printedLetter(0), 0);
        check.due("printedLetter(1)", x.printedLetter(1), 0);
        check.due("printedLetter(2)", x.printedLetter(2), 11);
        check.due("printedLetter(3)", x.printedLetter(3), Given.NONE);
        TypebarLayout full = Given.text("l" + "b".repeat(58) + "k");
        full.run(30);
        check.due("printedLetter(0)", full.printedLetter(0), 11);
        check.due("printedLetter(1)", full.printedLetter(1), 1);
        check.due("printedLetter(58)", full.printedLetter(58), 1);
        check.due("printedLetter(59)", full.printedLetter(59), 10);
        check.due("printedLetter(60)", full.printedLetter(60), Given.NONE);
    }

    private static void printedLetterNothing() {
        check.sentence("Promise 24", "NOTHING if fewer letters were printed or index is negative.");
        TypebarLayout fresh = Given.text("abc");
        check.due("printedLetter(0) before a run", fresh.printedLetter(0), Given.NONE);
        fresh.safeInterval();
        check.due("printedLetter(0) behind safeInterval", fresh.printedLetter(0), Given.NONE);
        TypebarLayout full = Given.text("abc".repeat(20));
        full.run(4);
        TypebarLayout half = Given.text("a".repeat(60));
        half.run(2);
        for (int index : FAR_INDEXES) {
            check.due("printedLetter(" + index + ") before a run", fresh.printedLetter(index), Given.NONE);
            check.due("printedLetter(" + index + ") of 60", full.printedLetter(index), Given.NONE);
            check.due("printedLetter(" + index + ") of 30", half.printedLetter(index), Given.NONE);
        }
        check.due("printedLetter(29) of 30", half.printedLetter(29), 0);
        check.due("printedLetter(30) of 30", half.printedLetter(30), Given.NONE);
        check.due("printedLetter(31) of 30", half.printedLetter(31), Given.NONE);
        // What an earlier, longer run printed is gone.
        full.clearText();
        full.append('l');
        full.run(4);
        check.due("printedLetter(0) of l", full.printedLetter(0), 11);
        check.due("printedLetter(1) of l", full.printedLetter(1), Given.NONE);
    }

    private static void jammedKeystrokeIndex() {
        check.sentence("Promise 25", "index of the keystroke among the jammed keystrokes, from 0");
        TypebarLayout x = Given.text("aablla");
        x.setClearingTime(0);
        x.run(1);
        // a, a lost, b jammed, l, l lost, a.
        check.due("jammedKeystroke(-1)", x.jammedKeystroke(-1), Given.NONE);
        check.due("jammedKeystroke(0)", x.jammedKeystroke(0), 2);
        check.due("jammedKeystroke(1)", x.jammedKeystroke(1), Given.NONE);
        TypebarLayout full = Given.text("ab".repeat(30));
        full.run(3);
        for (int k = 0; k < 30; k++) {
            check.due("jammedKeystroke(" + k + ")", full.jammedKeystroke(k), 2 * k + 1);
        }
        check.due("jammedKeystroke(30)", full.jammedKeystroke(30), Given.NONE);
    }

    private static void jammedKeystrokeNothing() {
        check.sentence("Promise 25", "NOTHING if fewer keystrokes were jammed or index is negative.");
        TypebarLayout fresh = Given.text("abab");
        check.due("jammedKeystroke(0) before a run", fresh.jammedKeystroke(0), Given.NONE);
        fresh.safeInterval();
        check.due("jammedKeystroke(0) behind safeInterval", fresh.jammedKeystroke(0), Given.NONE);
        TypebarLayout full = Given.text("ab".repeat(30));
        full.run(3);
        for (int index : FAR_INDEXES) {
            check.due("jammedKeystroke(" + index + ") before a run", fresh.jammedKeystroke(index), Given.NONE);
            check.due("jammedKeystroke(" + index + ") of 30", full.jammedKeystroke(index), Given.NONE);
        }
        full.run(4);
        check.due("jammedKeystroke(0) of a run without jams", full.jammedKeystroke(0), Given.NONE);
        // A lost keystroke is no jammed one.
        TypebarLayout lost = Given.text("aaa");
        lost.run(1);
        check.due("jammedKeystroke(0) of aaa", lost.jammedKeystroke(0), Given.NONE);
    }

    // ---- safeInterval

    private static void safeIntervalLeast() {
        check.sentence("Promise 26", "Finds the least interval, 1 to 30");
        String[] texts = {"", "a", "ada", "adgb", "adgja", "alal", "afkafk", "aefgh", "ab".repeat(30), "adgjadgj"};
        for (String text : texts) {
            for (int travel = 1; travel <= 20; travel++) {
                TypebarLayout x = Given.text(text, travel, 2, 10);
                int safe = x.safeInterval();
                check.holds("it is 1 to 30", safe >= 1 && safe <= 30);
                check.due("run of it prints '" + text + "'", x.run(safe), text.length());
                check.holds("one less does not", safe == 1 || x.run(safe - 1) < text.length());
            }
        }
    }

    private static void safeIntervalJammedAndLost() {
        check.sentence("Promise 26", "with which the text would be typed without jammed and lost keystrokes");
        check.due("safeInterval() of aa, else lost", Given.text("aa").safeInterval(), 4);
        check.due("safeInterval() of ac, else jammed", Given.text("ac").safeInterval(), 4);
        check.due("safeInterval() of ad", Given.text("ad").safeInterval(), 1);
        check.due("safeInterval() of adgjadgj", Given.text("adgjadgj").safeInterval(), 1);
        // The last keystroke alone is lost, or jammed.
        check.due("safeInterval() of adgja", Given.text("adgja", 5, 2, 10).safeInterval(), 2);
        check.due("safeInterval() of adgjb", Given.text("adgjb", 5, 2, 10).safeInterval(), 2);
        String last = "adgj".repeat(14) + "adgg";
        check.due("safeInterval() of '" + last + "'", Given.text(last).safeInterval(), 4);
        // The clearing time does not make an interval safe.
        check.due("safeInterval() of ab with 50", Given.text("ab", 20, 2, 50).safeInterval(), 20);
    }

    private static void safeIntervalEnds() {
        // T is 20 at most, so the interval 20 is always safe, and NOTHING is never due.
        check.sentence("Promise 26", "Returns the interval; NOTHING if there is none.");
        check.due("safeInterval() of no text", new TypebarLayout().safeInterval(), 1);
        check.due("safeInterval() of no text, T 20", Given.text("", 20, 5, 50).safeInterval(), 1);
        check.due("safeInterval() of a, T 20", Given.text("a", 20, 5, 50).safeInterval(), 1);
        for (int travel = 1; travel <= 20; travel++) {
            TypebarLayout same = Given.text("l".repeat(60), travel, 5, 50);
            check.due("safeInterval() of 60 l, T " + travel, same.safeInterval(), travel);
            TypebarLayout near = Given.text("lk".repeat(30), travel, 1, 0);
            check.due("safeInterval() of 30 lk, T " + travel, near.safeInterval(), travel);
        }
    }

    private static void safeIntervalKeepsResults() {
        check.sentence("Promise 26", "The results of the latest run are kept.");
        TypebarLayout x = Given.busy();
        x.safeInterval();
        check.holds("safeInterval() changes nothing", Given.view(x).equals(Given.view(Given.busy())));
        TypebarLayout fresh = Given.text("abab");
        fresh.safeInterval();
        check.due("duration() where there was no run", fresh.duration(), 0);
        check.due("jams() where there was no run", fresh.jams(), 0);
        check.due("printedLetter(0) where there was no run", fresh.printedLetter(0), Given.NONE);
    }
}
