import java.util.ArrayList;
import java.util.List;

/**
 * The document once more, word by word and by other means than the class: the layout is a list of
 * letters, a swap is undone by going back to the layout before it, a typebar in motion is an entry
 * of a list. ModelTest holds the class against it.
 */
final class Model {
    private static final int RANGE = -1000003;
    private static final int NONE = -1000006;

    private final List<Integer> text = new ArrayList<>();
    private int travel = 4;
    private int clash = 2;
    private int clearing = 10;
    private List<Integer> bars = new ArrayList<>();
    private final List<List<Integer>> earlier = new ArrayList<>();
    private Outcome outcome = new Outcome();

    private record Moving(int letter, int lastTick) {}

    private static final class Outcome {
        final List<Integer> printed = new ArrayList<>();
        final List<Integer> jammed = new ArrayList<>();
        int lost = 0;
        int duration = 0;
    }

    Model() {
        for (int k = 0; k < 12; k++) {
            bars.add(k);
        }
    }

    int append(int ch) {
        if ("abcdefghijkl".indexOf(ch) < 0) {
            return -1000001;
        }
        if (text.size() == 60) {
            return -1000002;
        }
        text.add(ch - 97);
        return text.size();
    }

    int clearText() {
        int length = text.size();
        text.clear();
        return length;
    }

    int pairCount(int first, int second) {
        if (outside(first, 0, 11) || outside(second, 0, 11)) {
            return RANGE;
        }
        int count = 0;
        for (int k = 0; k + 1 < text.size(); k++) {
            int low = Math.min(text.get(k), text.get(k + 1));
            int high = Math.max(text.get(k), text.get(k + 1));
            count += low == Math.min(first, second) && high == Math.max(first, second) ? 1 : 0;
        }
        return count;
    }

    int setTravelTime(int ticks) {
        int previous = travel;
        if (outside(ticks, 1, 20)) {
            return RANGE;
        }
        travel = ticks;
        return previous;
    }

    int setClashDistance(int distance) {
        int previous = clash;
        if (outside(distance, 1, 5)) {
            return RANGE;
        }
        clash = distance;
        return previous;
    }

    int setClearingTime(int ticks) {
        int previous = clearing;
        if (outside(ticks, 0, 50)) {
            return RANGE;
        }
        clearing = ticks;
        return previous;
    }

    int loadLayout() {
        if (text.size() != 12 || text.stream().distinct().count() != 12) {
            return -1000004;
        }
        bars = new ArrayList<>(text);
        text.clear();
        earlier.clear();
        return 12;
    }

    int letterAt(int position) {
        return outside(position, 0, 11) ? RANGE : bars.get(position);
    }

    int positionOf(int letter) {
        return outside(letter, 0, 11) ? RANGE : bars.indexOf(letter);
    }

    int swap(int first, int second) {
        if (outside(first, 0, 11) || outside(second, 0, 11)) {
            return RANGE;
        }
        if (first == second) {
            return -1000005;
        }
        earlier.add(bars);
        if (earlier.size() > 30) {
            earlier.remove(0);
        }
        bars = swapped(first, second);
        return cost();
    }

    int undo() {
        if (earlier.isEmpty()) {
            return NONE;
        }
        bars = earlier.remove(earlier.size() - 1);
        return cost();
    }

    int undoCount() {
        return earlier.size();
    }

    int mirror() {
        List<Integer> mirrored = new ArrayList<>();
        for (int letter : bars) {
            mirrored.add(0, letter);
        }
        bars = mirrored;
        earlier.clear();
        return cost();
    }

    int cost() {
        return costOf(bars, -1);
    }

    int gain(int first, int second) {
        if (outside(first, 0, 11) || outside(second, 0, 11)) {
            return RANGE;
        }
        return first == second ? -1000005 : cost() - costOf(swapped(first, second), -1);
    }

    int bestSwap() {
        int greatest = 0;
        for (int p = 0; p < 12; p++) {
            for (int q = p + 1; q < 12; q++) {
                greatest = Math.max(greatest, gain(p, q));
            }
        }
        for (int code = 1; greatest > 0 && code <= 1011; code++) {
            if (code / 100 < code % 100 && code % 100 < 12 && gain(code / 100, code % 100) == greatest) {
                return code;
            }
        }
        return NONE;
    }

    int improve(int limit) {
        if (outside(limit, 0, 100)) {
            return RANGE;
        }
        int made = 0;
        while (made < limit && bestSwap() != NONE) {
            int best = bestSwap();
            swap(best / 100, best % 100);
            made++;
        }
        return made;
    }

    int worstLetter() {
        if (cost() == 0) {
            return NONE;
        }
        int worst = 0;
        for (int letter = 1; letter < 12; letter++) {
            if (costOf(bars, letter) > costOf(bars, worst)) {
                worst = letter;
            }
        }
        return worst;
    }

    int run(int interval) {
        if (outside(interval, 1, 30)) {
            return RANGE;
        }
        outcome = typed(interval);
        return outcome.printed.size();
    }

    int jams() {
        return outcome.jammed.size();
    }

    int lost() {
        return outcome.lost;
    }

    int duration() {
        return outcome.duration;
    }

    int printedLetter(int index) {
        return outside(index, 0, outcome.printed.size() - 1) ? NONE : outcome.printed.get(index);
    }

    int jammedKeystroke(int index) {
        return outside(index, 0, outcome.jammed.size() - 1) ? NONE : outcome.jammed.get(index);
    }

    int safeInterval() {
        for (int interval = 1; interval <= 30; interval++) {
            if (typed(interval).printed.size() == text.size()) {
                return interval;
            }
        }
        return NONE;
    }

    long digest() {
        List<Integer> values = new ArrayList<>();
        values.add(text.size());
        values.addAll(text);
        values.addAll(List.of(travel, clash, clearing));
        values.addAll(bars);
        values.addAll(List.of(undoCount(), cost(), bestSwap(), worstLetter(), safeInterval()));
        values.addAll(List.of(jams(), lost(), duration(), outcome.printed.size()));
        values.addAll(outcome.printed);
        values.addAll(outcome.jammed);
        long hash = 1783;
        for (int v : values) {
            hash = 31 * hash + v;
        }
        return hash;
    }

    private static boolean outside(int value, int low, int high) {
        return value < low || value > high;
    }

    private List<Integer> swapped(int first, int second) {
        List<Integer> after = new ArrayList<>(bars);
        after.set(first, bars.get(second));
        after.set(second, bars.get(first));
        return after;
    }

    /** The closeness of all pairs, or of those that have a letter in them if it is not negative. */
    private int costOf(List<Integer> layout, int letter) {
        int sum = 0;
        for (int k = 0; k + 1 < text.size(); k++) {
            int a = text.get(k);
            int b = text.get(k + 1);
            if (a != b && (letter < 0 || a == letter || b == letter)) {
                int distance = Math.abs(layout.indexOf(a) - layout.indexOf(b));
                sum += distance > clash ? 0 : clash + 1 - distance;
            }
        }
        return sum;
    }

    private Outcome typed(int interval) {
        Outcome result = new Outcome();
        List<Moving> moving = new ArrayList<>();
        int tick = 0;
        boolean afterJam = false;
        for (int k = 0; k < text.size(); k++) {
            if (k > 0) {
                tick += interval;
            }
            if (afterJam) {
                tick += clearing;
            }
            afterJam = false;
            int letter = text.get(k);
            int now = tick;
            moving.removeIf(m -> m.lastTick() < now);
            if (moving.stream().anyMatch(m -> m.letter() == letter)) {
                result.lost++;
            } else if (moving.removeIf(
                    m -> Math.abs(bars.indexOf(m.letter()) - bars.indexOf(letter)) <= clash)) {
                result.jammed.add(k);
                afterJam = true;
            } else {
                result.printed.add(letter);
                moving.add(new Moving(letter, tick + travel - 1));
            }
            result.duration = tick + travel;
        }
        return result;
    }
}
