import java.io.IOException;
import java.nio.file.Files;
import java.nio.file.Path;

/** Counts the answers of a test that are not as due, and tells them. */
final class Check {
    private static final Path DOCUMENT = Path.of("../shared/DOC.md");

    private String place = "";
    private String document = null;
    private int looked = 0;
    private int wrong = 0;

    /** Names what the next answers belong to. */
    void at(String place) {
        this.place = place;
    }

    /** Names the sentence that the next answers belong to; the document must have its words. */
    void sentence(String section, String words) {
        at(section + ", \"" + words + "\"");
        holds("the document has these words in this section", sectionOf(section).contains(words));
    }

    private String sectionOf(String section) {
        if (document == null) {
            document = read();
        }
        // "Description" is a heading, "Promise 2" the beginning of one.
        int start = document.indexOf("\n## " + section + (section.startsWith("Promise") ? ":" : "\n"));
        int end = start < 0 ? -1 : document.indexOf("\n## ", start + 1);
        return start < 0 ? "" : document.substring(start, end < 0 ? document.length() : end);
    }

    private static String read() {
        try {
            return Files.readString(DOCUMENT);
        } catch (IOException e) {
            return "";
        }
    }

    void due(String call, long got, long want) {
        looked++;
        if (got != want) {
            wrong++;
            System.out.println(place + ": " + call + " answered " + got + ", due is " + want);
        }
    }

    void due(String call, String got, String want) {
        holds(call + " is " + want + ", it is " + got, got.equals(want));
    }

    void holds(String what, boolean truth) {
        looked++;
        if (!truth) {
            wrong++;
            System.out.println(place + ": not so: " + what);
        }
    }

    int looked() {
        return looked;
    }

    int wrong() {
        return wrong;
    }

    /** Ends the program: a test that looked at nothing has failed too. */
    void end() {
        System.out.println(looked + " answers looked at, " + wrong + " not as due");
        if (wrong != 0 || looked == 0) {
            System.exit(1);
        }
    }
}
