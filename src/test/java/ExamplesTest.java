/** The four examples of the document, call by call. */
public final class ExamplesTest {
    private static final Check check = new Check();

    public static void main(String[] args) {
        tooFast();
        betterLayout();
        sameLetter();
        errors();
        check.end();
    }

    private static void tooFast() {
        check.at("example 1");
        TypebarLayout x = new TypebarLayout();
        check.due("append(97)", x.append(97), 1);
        check.due("append(98)", x.append(98), 2);
        check.due("append(97)", x.append(97), 3);
        check.due("append(98)", x.append(98), 4);
        check.due("cost()", x.cost(), 6);
        check.due("run(2)", x.run(2), 2);
        check.due("jams()", x.jams(), 2);
        check.due("printedLetter(1)", x.printedLetter(1), 0);
        check.due("jammedKeystroke(0)", x.jammedKeystroke(0), 1);
        check.due("duration()", x.duration(), 20);
        check.due("safeInterval()", x.safeInterval(), 4);
    }

    private static void betterLayout() {
        check.at("example 2");
        TypebarLayout x = new TypebarLayout();
        check.due("append(97)", x.append(97), 1);
        check.due("append(98)", x.append(98), 2);
        check.due("append(99)", x.append(99), 3);
        check.due("append(97)", x.append(97), 4);
        check.due("append(98)", x.append(98), 5);
        check.due("append(99)", x.append(99), 6);
        check.due("bestSwap()", x.bestSwap(), 105);
        check.due("gain(0, 11)", x.gain(0, 11), 5);
        check.due("swap(0, 11)", x.swap(0, 11), 4);
        check.due("undo()", x.undo(), 9);
        check.due("improve(10)", x.improve(10), 2);
        check.due("cost()", x.cost(), 0);
        check.due("undoCount()", x.undoCount(), 2);
    }

    private static void sameLetter() {
        check.at("example 3");
        TypebarLayout x = new TypebarLayout();
        check.due("append(97)", x.append(97), 1);
        check.due("append(97)", x.append(97), 2);
        check.due("append(97)", x.append(97), 3);
        check.due("run(3)", x.run(3), 2);
        check.due("lost()", x.lost(), 1);
        check.due("run(4)", x.run(4), 3);
        check.due("lost()", x.lost(), 0);
        check.due("safeInterval()", x.safeInterval(), 4);
        check.due("worstLetter()", x.worstLetter(), -1000006);
    }

    private static void errors() {
        check.at("example 4");
        TypebarLayout x = new TypebarLayout();
        check.due("letterAt(0)", x.letterAt(0), 0);
        check.due("swap(5, 5)", x.swap(5, 5), -1000005);
        check.due("undo()", x.undo(), -1000006);
        check.due("append(109)", x.append(109), -1000001);
        check.due("mirror()", x.mirror(), 0);
        check.due("letterAt(0)", x.letterAt(0), 11);
        check.due("swap(0, 11)", x.swap(0, 11), 0);
        check.due("letterAt(0)", x.letterAt(0), 0);
        check.due("undo()", x.undo(), 0);
        check.due("letterAt(0)", x.letterAt(0), 11);
    }
}
