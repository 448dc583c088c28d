import java.util.ArrayList;
import java.util.List;
import java.util.function.Supplier;
import java.util.function.ToIntFunction;

/** The section 'Errors' of the document: calls that are refused, and two errors at once. */
public final class BoundaryErrorsTest {
    private static final String ALPHABET = "abcdefghijkl";
    private static final int[] CODES = {Given.BAD, Given.FULL, Given.RANGE, Given.NO_LAYOUT, Given.SAME, Given.NONE};

    private static final Check check = new Check();

    public static void main(String[] args) {
        codesAreNegative();
        refusedTextChangesNothing();
        refusedParameterChangesNothing();
        refusedLoadChangesNothing();
        refusedPositionChangesNothing();
        refusedSwapChangesNothing();
        refusedUndoChangesNothing();
        refusedSearchChangesNothing();
        refusedImproveChangesNothing();
        refusedRunChangesNothing();
        refusedIndexChangesNothing();
        questionsChangeNothing();
        badCharacterBeforeTextFull();
        outOfRangeBeforeSamePosition();
        noOtherResultIsNegative();
        check.end();
    }

    private static void codesAreNegative() {
        check.sentence("Description", "All error codes are negative");
        int[] codes = {
            TypebarLayout.BAD_CHARACTER, TypebarLayout.TEXT_FULL, TypebarLayout.OUT_OF_RANGE,
            TypebarLayout.NOT_A_LAYOUT, TypebarLayout.SAME_POSITION, TypebarLayout.NOTHING
        };
        for (int k = 0; k < 6; k++) {
            check.due("code " + k, codes[k], -1000001 - k);
        }
    }

    // ---- a refused call changes nothing

    private static void changesNothing() {
        check.sentence("Description", "A method that returns an error code changes nothing.");
    }

    /** Makes the object twice, the call on one of them, and holds both against one another. */
    private static void refused(String call, int code, ToIntFunction<TypebarLayout> f, Supplier<TypebarLayout> state) {
        TypebarLayout asked = state.get();
        check.due(call, f.applyAsInt(asked), code);
        check.due(call + " again", f.applyAsInt(asked), code);
        check.holds(call + " changes nothing", Given.view(asked).equals(Given.view(state.get())));
    }

    private static void refusedAnywhere(String call, int code, ToIntFunction<TypebarLayout> f) {
        refused(call + " of a new object", code, f, TypebarLayout::new);
        refused(call + " of one letter", code, f, Given::single);
        refused(call + " of a busy object", code, f, Given::busy);
    }

    /** Just outside, and as far outside as can be. */
    private static int[] outside(int low, int high) {
        return new int[] {low - 1, high + 1, Given.MIN, Given.MAX};
    }

    private static void refusedTextChangesNothing() {
        changesNothing();
        for (int ch : outside('a', 'l')) {
            refusedAnywhere("append(" + ch + ")", Given.BAD, x -> x.append(ch));
        }
        for (int ch = 'a'; ch <= 'l'; ch++) {
            int letter = ch;
            refused("append(" + ch + ") to a full text", Given.FULL, x -> x.append(letter), Given::busy);
        }
        for (int w : outside(0, 11)) {
            refusedAnywhere("pairCount(" + w + ", 0)", Given.RANGE, x -> x.pairCount(w, 0));
            refusedAnywhere("pairCount(0, " + w + ")", Given.RANGE, x -> x.pairCount(0, w));
        }
    }

    private static void refusedParameterChangesNothing() {
        changesNothing();
        for (int w : outside(1, 20)) {
            refusedAnywhere("setTravelTime(" + w + ")", Given.RANGE, x -> x.setTravelTime(w));
        }
        for (int w : outside(1, 5)) {
            refusedAnywhere("setClashDistance(" + w + ")", Given.RANGE, x -> x.setClashDistance(w));
        }
        for (int w : outside(0, 50)) {
            refusedAnywhere("setClearingTime(" + w + ")", Given.RANGE, x -> x.setClearingTime(w));
        }
    }

    private static void refusedLoadChangesNothing() {
        changesNothing();
        refusedAnywhere("loadLayout()", Given.NO_LAYOUT, TypebarLayout::loadLayout);
        // Texts that are nearly a layout, where the letters in front could already be placed.
        String[] texts = {"lkjihgfedcb", "lkjihgfedcbb", "lkjihgfedcbal", "llkjihgfedcb", "lkjihgfedcbaa"};
        for (String text : texts) {
            refused("loadLayout() of " + text, Given.NO_LAYOUT, TypebarLayout::loadLayout, () -> {
                TypebarLayout x = Given.busy();
                x.clearText();
                Given.write(x, text);
                return x;
            });
        }
    }

    private static void refusedPositionChangesNothing() {
        changesNothing();
        for (int w : outside(0, 11)) {
            refusedAnywhere("letterAt(" + w + ")", Given.RANGE, x -> x.letterAt(w));
            refusedAnywhere("positionOf(" + w + ")", Given.RANGE, x -> x.positionOf(w));
        }
    }

    private static void refusedSwapChangesNothing() {
        changesNothing();
        for (int w : outside(0, 11)) {
            refusedAnywhere("swap(" + w + ", 3)", Given.RANGE, x -> x.swap(w, 3));
            refusedAnywhere("swap(3, " + w + ")", Given.RANGE, x -> x.swap(3, w));
            refusedAnywhere("gain(" + w + ", 3)", Given.RANGE, x -> x.gain(w, 3));
            refusedAnywhere("gain(3, " + w + ")", Given.RANGE, x -> x.gain(3, w));
        }
        for (int k = 0; k < 12; k++) {
            int p = k;
            refusedAnywhere("swap(" + p + ", " + p + ")", Given.SAME, x -> x.swap(p, p));
            refusedAnywhere("gain(" + p + ", " + p + ")", Given.SAME, x -> x.gain(p, p));
        }
    }

    private static void refusedUndoChangesNothing() {
        changesNothing();
        refused("undo() of a new object", Given.NONE, TypebarLayout::undo, TypebarLayout::new);
        refused("undo() behind mirror", Given.NONE, TypebarLayout::undo, () -> {
            TypebarLayout x = Given.busy();
            x.mirror();
            return x;
        });
        refused("undo() behind loadLayout", Given.NONE, TypebarLayout::undo, () -> {
            TypebarLayout x = Given.busy();
            x.clearText();
            Given.write(x, ALPHABET);
            x.loadLayout();
            return x;
        });
        refused("undo() behind all undos", Given.NONE, TypebarLayout::undo, () -> {
            TypebarLayout x = Given.busy();
            for (int k = 0; k < 30; k++) {
                x.undo();
            }
            return x;
        });
    }

    private static void refusedSearchChangesNothing() {
        changesNothing();
        refused("bestSwap() of a new object", Given.NONE, TypebarLayout::bestSwap, TypebarLayout::new);
        refused("bestSwap() of one letter", Given.NONE, TypebarLayout::bestSwap, Given::single);
        refused("worstLetter() of a new object", Given.NONE, TypebarLayout::worstLetter, TypebarLayout::new);
        refused("worstLetter() of one letter", Given.NONE, TypebarLayout::worstLetter, Given::single);
        refused("bestSwap() of a text that costs", Given.NONE, TypebarLayout::bestSwap, () -> {
            TypebarLayout x = Given.busy();
            x.improve(100);
            return x;
        });
    }

    private static void refusedImproveChangesNothing() {
        changesNothing();
        for (int w : outside(0, 100)) {
            refusedAnywhere("improve(" + w + ")", Given.RANGE, x -> x.improve(w));
        }
    }

    private static void refusedRunChangesNothing() {
        changesNothing();
        for (int w : outside(1, 30)) {
            refusedAnywhere("run(" + w + ")", Given.RANGE, x -> x.run(w));
        }
    }

    private static void refusedIndexChangesNothing() {
        changesNothing();
        for (int w : outside(0, 59)) {
            refusedAnywhere("printedLetter(" + w + ")", Given.NONE, x -> x.printedLetter(w));
            refusedAnywhere("jammedKeystroke(" + w + ")", Given.NONE, x -> x.jammedKeystroke(w));
        }
    }

    private static void unchanged(String call, ToIntFunction<TypebarLayout> f) {
        TypebarLayout asked = Given.busy();
        f.applyAsInt(asked);
        check.holds(call + " changes nothing", Given.view(asked).equals(Given.view(Given.busy())));
    }

    private static void questionsChangeNothing() {
        check.sentence("Not promised", "Nothing is promised beyond the answers and state changes described above");
        unchanged("pairCount(0, 1)", x -> x.pairCount(0, 1));
        unchanged("letterAt(11)", x -> x.letterAt(11));
        unchanged("positionOf(11)", x -> x.positionOf(11));
        unchanged("undoCount()", TypebarLayout::undoCount);
        unchanged("cost()", TypebarLayout::cost);
        unchanged("gain(0, 11)", x -> x.gain(0, 11));
        unchanged("bestSwap()", TypebarLayout::bestSwap);
        unchanged("improve(0)", x -> x.improve(0));
        unchanged("worstLetter()", TypebarLayout::worstLetter);
        unchanged("jams()", TypebarLayout::jams);
        unchanged("lost()", TypebarLayout::lost);
        unchanged("duration()", TypebarLayout::duration);
        unchanged("printedLetter(0)", x -> x.printedLetter(0));
        unchanged("jammedKeystroke(0)", x -> x.jammedKeystroke(0));
        unchanged("safeInterval()", TypebarLayout::safeInterval);
        unchanged("digest()", x -> (int) x.digest());
    }

    // ---- two errors at once

    private static void listedFirst() {
        check.sentence("Description", "Where several errors apply, the one that is listed first is returned.");
    }

    private static void badCharacterBeforeTextFull() {
        listedFirst();
        int[] bad = {96, 109, 0, -1, 'A', 97 + 65536, Given.MIN, Given.MAX};
        for (int ch : bad) {
            refused("append(" + ch + ") to a full text", Given.BAD, x -> x.append(ch), Given::busy);
        }
    }

    private static void outOfRangeBeforeSamePosition() {
        listedFirst();
        int[] wrong = {-1, 12, -2, 13, 97, Given.MIN, Given.MAX};
        for (int w : wrong) {
            refusedAnywhere("swap(" + w + ", " + w + ")", Given.RANGE, x -> x.swap(w, w));
            refusedAnywhere("gain(" + w + ", " + w + ")", Given.RANGE, x -> x.gain(w, w));
        }
    }

    // ---- what is not negative

    /** Answers of every method but gain and digest, to arguments inside and outside. */
    private static List<Integer> answers(TypebarLayout x) {
        List<Integer> all = new ArrayList<>();
        int[] arguments = {Given.MIN, -1, 0, 1, 5, 11, 12, 30, 59, 97, Given.MAX};
        for (int a : arguments) {
            all.addAll(List.of(x.append(a), x.pairCount(a, 1), x.setTravelTime(a), x.setClashDistance(a),
                x.setClearingTime(a), x.letterAt(a), x.positionOf(a)));
            all.addAll(List.of(x.run(a), x.jams(), x.lost(), x.duration(), x.printedLetter(a), x.jammedKeystroke(a)));
            all.addAll(List.of(x.cost(), x.bestSwap(), x.worstLetter(), x.safeInterval()));
            all.addAll(List.of(x.swap(a, 2), x.undoCount(), x.undo(), x.improve(a), x.mirror(), x.loadLayout()));
        }
        all.add(x.clearText());
        return all;
    }

    private static void noOtherResultIsNegative() {
        check.sentence("Description", "no other result but a digest is negative unless the documentation says so");
        List<Integer> codes = new ArrayList<>();
        for (int code : CODES) {
            codes.add(code);
        }
        List<TypebarLayout> objects = List.of(new TypebarLayout(), Given.single(), Given.busy());
        for (TypebarLayout x : objects) {
            for (int answer : answers(x)) {
                check.holds(answer + " is an error code or not negative", answer >= 0 || codes.contains(answer));
            }
        }
    }
}
