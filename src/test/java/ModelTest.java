import java.util.Random;

/** Long runs of drawn calls, the same in every run of the test, on the class and on the model. */
public final class ModelTest {
    private static final int OBJECTS = 500;
    // The document promises nothing behind the 512th call of an object. A round makes four calls at
    // most, and the digest at the end is one more.
    private static final int CALLS_BEFORE_LAST_ROUND = 512 - 1 - 4;
    private static final int ROUNDS = 512;
    private static final Check check = new Check();

    public static void main(String[] args) {
        for (int seed = 1; seed <= OBJECTS && check.wrong() == 0; seed++) {
            oneObject(new Random(seed), seed);
        }
        check.end();
    }

    private static void oneObject(Random random, int seed) {
        TypebarLayout x = new TypebarLayout();
        Model model = new Model();
        int letters = 2 + random.nextInt(11);
        int[] order = shuffled(random);
        int loaded = 12;
        int before = check.looked();
        for (int k = 1; k <= ROUNDS && check.wrong() == 0; k++) {
            if (check.looked() - before > CALLS_BEFORE_LAST_ROUND) {
                break;
            }
            check.at("object " + seed + ", call " + (check.looked() - before + 1));
            int method = k > 8 && random.nextInt(3) == 0 ? 0 : random.nextInt(27);
            if (method == 6 && loaded == 12) {
                check.due("clearText()", x.clearText(), model.clearText());
                loaded = 0;
            } else if (loaded < 12) {
                int ch = 'a' + order[loaded++];
                check.due("append(" + ch + ")", x.append(ch), model.append(ch));
                if (loaded == 12) {
                    check.due("loadLayout()", x.loadLayout(), model.loadLayout());
                    order = shuffled(random);
                }
            } else if (method < 14) {
                callText(x, model, method, random, letters);
            } else {
                callTyping(x, model, method, random);
            }
        }
        check.due("digest() at the end", x.digest(), model.digest());
    }

    private static int[] shuffled(Random random) {
        int[] order = new int[12];
        for (int k = 0; k < 12; k++) {
            int other = random.nextInt(k + 1);
            order[k] = order[other];
            order[other] = k;
        }
        return order;
    }

    /** Mostly low to high, now and then just outside or far away. */
    private static int draw(Random random, int low, int high) {
        int kind = random.nextInt(40);
        if (kind == 0) {
            return low - 1;
        }
        if (kind == 1) {
            return high + 1;
        }
        if (kind == 2) {
            return random.nextInt();
        }
        return low + random.nextInt(high - low + 1);
    }

    private static void callText(TypebarLayout x, Model model, int method, Random random, int letters) {
        int a = draw(random, 0, 11);
        int b = draw(random, 0, 11);
        switch (method) {
            case 0, 1 -> {
                int ch = draw(random, 'a', 'a' + letters - 1);
                check.due("append(" + ch + ")", x.append(ch), model.append(ch));
            }
            case 2 -> {
                // Seldom, so that texts grow long.
                if (random.nextInt(6) == 0) {
                    check.due("clearText()", x.clearText(), model.clearText());
                }
            }
            case 3 -> check.due("pairCount(" + a + ", " + b + ")", x.pairCount(a, b), model.pairCount(a, b));
            case 4 -> {
                int t = draw(random, 1, 20);
                check.due("setTravelTime(" + t + ")", x.setTravelTime(t), model.setTravelTime(t));
            }
            case 5 -> {
                int c = draw(random, 1, 5);
                check.due("setClashDistance(" + c + ")", x.setClashDistance(c), model.setClashDistance(c));
            }
            case 7 -> {
                int t = draw(random, 0, 50);
                check.due("setClearingTime(" + t + ")", x.setClearingTime(t), model.setClearingTime(t));
            }
            case 8 -> check.due("letterAt(" + a + ")", x.letterAt(a), model.letterAt(a));
            case 9 -> check.due("positionOf(" + a + ")", x.positionOf(a), model.positionOf(a));
            case 10, 11 -> check.due("swap(" + a + ", " + b + ")", x.swap(a, b), model.swap(a, b));
            case 12 -> check.due("undo()", x.undo(), model.undo());
            default -> check.due("loadLayout()", x.loadLayout(), model.loadLayout());
        }
    }

    private static void callTyping(TypebarLayout x, Model model, int method, Random random) {
        int a = draw(random, 0, 11);
        int b = draw(random, 0, 11);
        switch (method) {
            case 14 -> check.due("undoCount()", x.undoCount(), model.undoCount());
            case 15 -> {
                // Seldom, so that there is something to undo.
                if (random.nextInt(6) == 0) {
                    check.due("mirror()", x.mirror(), model.mirror());
                }
            }
            case 16 -> check.due("cost()", x.cost(), model.cost());
            case 17 -> check.due("gain(" + a + ", " + b + ")", x.gain(a, b), model.gain(a, b));
            case 18 -> check.due("bestSwap()", x.bestSwap(), model.bestSwap());
            case 19 -> {
                int limit = draw(random, 0, random.nextBoolean() ? 3 : 100);
                check.due("improve(" + limit + ")", x.improve(limit), model.improve(limit));
            }
            case 20 -> check.due("worstLetter()", x.worstLetter(), model.worstLetter());
            case 21, 22 -> {
                int interval = draw(random, 1, random.nextBoolean() ? 4 : 30);
                check.due("run(" + interval + ")", x.run(interval), model.run(interval));
                check.due("jams()", x.jams(), model.jams());
                check.due("lost()", x.lost(), model.lost());
                check.due("duration()", x.duration(), model.duration());
            }
            case 23 -> {
                int index = draw(random, 0, 20);
                check.due("printedLetter(" + index + ")", x.printedLetter(index), model.printedLetter(index));
            }
            case 24 -> {
                int index = draw(random, 0, 10);
                check.due("jammedKeystroke(" + index + ")", x.jammedKeystroke(index), model.jammedKeystroke(index));
            }
            case 25 -> check.due("safeInterval()", x.safeInterval(), model.safeInterval());
            default -> check.due("digest()", x.digest(), model.digest());
        }
    }
}
