import java.math.BigInteger;
import java.util.ArrayList;
import java.util.List;

/** The boundary cases of promise 27: long arithmetic with overflow, empty and full lists, error codes. */
public final class BoundaryDigestTest {
    private static final BigInteger TWO_TO_64 = BigInteger.ONE.shiftLeft(64);

    private static final Check check = new Check();

    public static void main(String[] args) {
        start();
        overflow();
        emptyAndFullText();
        parameters();
        layoutAndUndoCount();
        errorCodes();
        latestRun();
        eachValueCounts();
        orderCounts();
        check.end();
    }

    /** The hash in whole numbers without bounds; what is asked for is its lowest 64 bits. */
    private static BigInteger unbounded(List<Integer> values) {
        BigInteger hash = BigInteger.valueOf(1783);
        for (int v : values) {
            hash = hash.multiply(BigInteger.valueOf(31)).add(BigInteger.valueOf(v));
        }
        return hash;
    }

    private static long wrapped(BigInteger hash) {
        BigInteger rest = hash.mod(TWO_TO_64);
        return rest.testBit(63) ? rest.subtract(TWO_TO_64).longValueExact() : rest.longValueExact();
    }

    /** The list of the document; the text and the parameters are known to the test. */
    private static List<Integer> values(TypebarLayout x, String text, int travel, int clash, int clearing) {
        List<Integer> values = new ArrayList<>();
        values.add(text.length());
        for (char c : text.toCharArray()) {
            values.add(c - 'a');
        }
        values.addAll(List.of(travel, clash, clearing));
        for (int p = 0; p < 12; p++) {
            values.add(x.letterAt(p));
        }
        values.addAll(List.of(x.undoCount(), x.cost(), x.bestSwap(), x.worstLetter(), x.safeInterval()));
        values.addAll(List.of(x.jams(), x.lost(), x.duration()));
        List<Integer> printed = new ArrayList<>();
        int letter = x.printedLetter(0);
        while (letter >= 0 && printed.size() <= 60) {
            printed.add(letter);
            letter = x.printedLetter(printed.size());
        }
        values.add(printed.size());
        values.addAll(printed);
        for (int k = 0; k < x.jams(); k++) {
            values.add(x.jammedKeystroke(k));
        }
        return values;
    }

    private static void digestIs(String what, TypebarLayout x, String text, int travel, int clash, int clearing) {
        BigInteger want = unbounded(values(x, text, travel, clash, clearing));
        check.due("digest() of " + what, x.digest(), wrapped(want));
        check.due("digest() of " + what + " again", x.digest(), wrapped(want));
    }

    private static void start() {
        check.sentence("Promise 27", "The hash starts at 1783.");
        // The number was found apart from this program.
        check.due("digest() of a new object", new TypebarLayout().digest(), -2093188877455230952L);
    }

    private static void overflow() {
        check.sentence("Promise 27", "in long arithmetic with overflow");
        TypebarLayout x = Given.text("l".repeat(60), 20, 5, 50);
        x.run(30);
        BigInteger want = unbounded(values(x, "l".repeat(60), 20, 5, 50));
        check.holds("the hash is far greater than any long", want.bitLength() > 600);
        check.due("digest()", x.digest(), wrapped(want));
        check.holds("it is no int", x.digest() != (int) x.digest());
        // Both signs come of it.
        int negative = 0;
        for (int k = 1; k <= 20; k++) {
            TypebarLayout y = new TypebarLayout();
            y.setTravelTime(k);
            digestIs("T " + k, y, "", k, 2, 10);
            negative += y.digest() < 0 ? 1 : 0;
        }
        check.holds("some digests are negative, some are not", negative > 0 && negative < 20);
    }

    private static void emptyAndFullText() {
        check.sentence("Promise 27", "the length of the text and the letter number of each letter of it");
        String text = "abcdefghijkl".repeat(5);
        int[] lengths = {0, 1, 2, 59, 60};
        for (int length : lengths) {
            String begin = text.substring(0, length);
            digestIs(length + " letters", Given.text(begin), begin, 4, 2, 10);
        }
        TypebarLayout full = Given.text(text);
        full.append('a');
        digestIs("a full text behind a refused letter", full, text, 4, 2, 10);
        full.clearText();
        digestIs("a text that was cleared", full, "", 4, 2, 10);
        check.due("digest() of it", full.digest(), new TypebarLayout().digest());
        full.append('l');
        digestIs("l where there was more", full, "l", 4, 2, 10);
    }

    private static void parameters() {
        check.sentence("Promise 27", "T, C, the clearing time");
        digestIs("the least", Given.text("ab", 1, 1, 0), "ab", 1, 1, 0);
        digestIs("the greatest", Given.text("ab", 20, 5, 50), "ab", 20, 5, 50);
        TypebarLayout x = Given.text("ab", 20, 5, 50);
        x.setTravelTime(21);
        x.setClashDistance(6);
        x.setClearingTime(51);
        digestIs("refused ones", x, "ab", 20, 5, 50);
    }

    private static void layoutAndUndoCount() {
        check.sentence("Promise 27", "letterAt for positions 0 to 11; undoCount");
        int[] counts = {0, 1, 29, 30, 31};
        for (int count : counts) {
            TypebarLayout x = Given.text("abc");
            Given.swaps(x, 1, count);
            digestIs(count + " swaps", x, "abc", 4, 2, 10);
        }
        TypebarLayout two = new TypebarLayout();
        two.swap(0, 11);
        two.swap(0, 11);
        check.holds("undoCount counts", two.digest() != new TypebarLayout().digest());
        two.undo();
        two.undo();
        check.due("digest() behind all undos", two.digest(), new TypebarLayout().digest());
    }

    private static void errorCodes() {
        check.sentence("Promise 27", "Where a method returns an error code, the code is the value.");
        TypebarLayout x = new TypebarLayout();
        List<Integer> values = values(x, "", 4, 2, 10);
        check.due("bestSwap() among the values", values.get(18), Given.NONE);
        check.due("worstLetter() among the values", values.get(19), Given.NONE);
        digestIs("a new object", x, "", 4, 2, 10);
        // No swap is found although the text costs something.
        TypebarLayout y = Given.text("abcdabdbcacd", 4, 5, 10);
        y.improve(100);
        check.due("bestSwap()", y.bestSwap(), Given.NONE);
        check.holds("worstLetter() is a letter", y.worstLetter() >= 0);
        digestIs("a text that costs", y, "abcdabdbcacd", 4, 5, 10);
    }

    private static void latestRun() {
        check.sentence("Promise 27", "the number of its printed letters, each of its printed letters, each of its jammed");
        TypebarLayout x = Given.text("ab".repeat(30), 20, 5, 50);
        digestIs("no run", x, "ab".repeat(30), 20, 5, 50);
        x.run(19);
        check.due("jams()", x.jams(), 30);
        digestIs("30 printed and 30 jammed", x, "ab".repeat(30), 20, 5, 50);
        x.run(20);
        digestIs("60 printed", x, "ab".repeat(30), 20, 5, 50);
        x.clearText();
        digestIs("a run whose text is gone", x, "", 20, 5, 50);
        x.run(20);
        digestIs("an empty run", x, "", 20, 5, 50);
        // The run before jammed another keystroke than the text that is there now would.
        TypebarLayout other = Given.text("lab");
        other.run(1);
        check.due("jammedKeystroke(0)", other.jammedKeystroke(0), 2);
        other.clearText();
        Given.write(other, "ab");
        digestIs("a run of another text", other, "ab", 4, 2, 10);
        TypebarLayout lost = Given.text("a".repeat(60));
        lost.run(1);
        digestIs("45 lost", lost, "a".repeat(60), 4, 2, 10);
        TypebarLayout refused = Given.text("abab");
        refused.run(0);
        refused.run(31);
        check.due("digest() behind refused runs", refused.digest(), Given.text("abab").digest());
    }

    private static void eachValueCounts() {
        check.sentence("Promise 27", "Computes a hash of the whole state.");
        long first = new TypebarLayout().digest();
        TypebarLayout[] changed = new TypebarLayout[6];
        for (int k = 0; k < 6; k++) {
            changed[k] = new TypebarLayout();
        }
        changed[0].append('a');
        changed[1].setTravelTime(5);
        changed[2].setClashDistance(3);
        changed[3].setClearingTime(11);
        changed[4].mirror();
        changed[5].append('a');
        changed[5].run(1);
        changed[5].clearText();
        for (int k = 0; k < 6; k++) {
            check.holds("change " + k + " is seen", changed[k].digest() != first);
        }
    }

    private static void orderCounts() {
        check.sentence("Promise 27", "in order");
        check.holds("al and la differ", Given.text("al").digest() != Given.text("la").digest());
        TypebarLayout x = Given.text("", 5, 4, 3);
        TypebarLayout y = Given.text("", 4, 5, 3);
        check.holds("T 5, C 4 and T 4, C 5 differ", x.digest() != y.digest());
        digestIs("T 5, C 4", x, "", 5, 4, 3);
        digestIs("T 4, C 5", y, "", 4, 5, 3);
    }
}
