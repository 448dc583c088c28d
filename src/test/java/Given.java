import java.util.ArrayList;
import java.util.List;

/** Objects in the states that tests begin with, and all that calls can show of an object. */
final class Given {
    static final int BAD = -1000001;
    static final int FULL = -1000002;
    static final int RANGE = -1000003;
    static final int NO_LAYOUT = -1000004;
    static final int SAME = -1000005;
    static final int NONE = -1000006;
    static final int MIN = Integer.MIN_VALUE;
    static final int MAX = Integer.MAX_VALUE;

    private Given() {}

    static TypebarLayout text(String text) {
        TypebarLayout x = new TypebarLayout();
        write(x, text);
        return x;
    }

    static TypebarLayout text(String text, int travel, int clash, int clearing) {
        TypebarLayout x = text(text);
        x.setTravelTime(travel);
        x.setClashDistance(clash);
        x.setClearingTime(clearing);
        return x;
    }

    static void write(TypebarLayout x, String text) {
        for (char c : text.toCharArray()) {
            x.append(c);
        }
    }

    /** A text by the numbers of its letters. */
    static String letters(int... numbers) {
        StringBuilder s = new StringBuilder();
        for (int n : numbers) {
            s.append((char) ('a' + n));
        }
        return s.toString();
    }

    /** The layout: its letters by position, as a text. */
    static String layout(TypebarLayout x) {
        StringBuilder s = new StringBuilder();
        for (int p = 0; p < 12; p++) {
            s.append((char) ('a' + x.letterAt(p)));
        }
        return s.toString();
    }

    /** Swaps whose two positions always differ; behind each of them the layout is another one. */
    static void swaps(TypebarLayout x, int first, int last) {
        for (int k = first; k <= last; k++) {
            x.swap(k % 12, (5 * k + 1) % 12);
        }
    }

    /** A full text, thirty-one swaps made, and a run with printed, jammed and lost keystrokes. */
    static TypebarLayout busy() {
        TypebarLayout x = text("aabbacddelfgghijklabcadaealllkkjhgfedcbaaabbbccddefaabblkjih", 6, 3, 7);
        x.run(2);
        swaps(x, 1, 31);
        return x;
    }

    /** One letter, one swap, a run of it. */
    static TypebarLayout single() {
        TypebarLayout x = text("g");
        x.run(1);
        x.swap(0, 11);
        return x;
    }

    /**
     * What calls can show of the object: the positions, the digest, and the same for every swap that
     * is undone. It undoes them all, so it is the last that is asked of an object; it makes so few
     * calls because the document promises nothing behind the 512th.
     */
    static List<String> view(TypebarLayout x) {
        List<String> seen = new ArrayList<>();
        seen.add(positions(x));
        int undone = 0;
        for (int k = 0; k <= 31 && undone >= 0; k++) {
            seen.add(undone + " " + x.digest());
            undone = x.undo();
        }
        seen.add(undone + positions(x));
        return seen;
    }

    private static String positions(TypebarLayout x) {
        StringBuilder s = new StringBuilder();
        for (int letter = 0; letter < 12; letter++) {
            s.append(' ').append(x.positionOf(letter));
        }
        return s.toString();
    }
}
