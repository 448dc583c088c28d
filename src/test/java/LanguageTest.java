import java.io.IOException;
import java.lang.reflect.Constructor;
import java.lang.reflect.Field;
import java.lang.reflect.Method;
import java.lang.reflect.Modifier;
import java.nio.file.Files;
import java.nio.file.Path;
import java.util.Arrays;
import java.util.Set;
import java.util.TreeSet;
import java.util.regex.Matcher;
import java.util.regex.Pattern;

/** The public face of the document, and those rules of LANGUAGE.md that can be seen mechanically. */
public final class LanguageTest {
    private static final String SOURCE = "src/main/java/TypebarLayout.java";
    private static final String[] METHODS = {
        "int append(int)", "int clearText()", "int pairCount(int,int)", "int setTravelTime(int)",
        "int setClashDistance(int)", "int setClearingTime(int)", "int loadLayout()", "int letterAt(int)",
        "int positionOf(int)", "int swap(int,int)", "int undo()", "int undoCount()", "int mirror()",
        "int cost()", "int gain(int,int)", "int bestSwap()", "int improve(int)", "int worstLetter()",
        "int run(int)", "int jams()", "int lost()", "int duration()", "int printedLetter(int)",
        "int jammedKeystroke(int)", "int safeInterval()", "long digest()"
    };
    private static final String[] CONSTANTS = {
        "BAD_CHARACTER", "TEXT_FULL", "OUT_OF_RANGE", "NOT_A_LAYOUT", "SAME_POSITION", "NOTHING"
    };
    private static final String[] RULED_OUT = {
        "throw", "throws", "try", "catch", "finally", "synchronized", "assert", "import", "package",
        "protected", "var", "->", "::", "@", "System.out", "Random", "Thread", "equals", "hashCode", "toString"
    };

    private static final Check check = new Check();

    public static void main(String[] args) throws IOException {
        face();
        privateNames();
        staticState();
        nestedClasses();
        source(withoutComments(Files.readString(Path.of(SOURCE))));
        check.end();
    }

    private static void face() {
        check.at("rule 1, the face");
        Class<?> c = TypebarLayout.class;
        check.holds("the class is public and final",
            Modifier.isPublic(c.getModifiers()) && Modifier.isFinal(c.getModifiers()));
        Set<String> methods = new TreeSet<>();
        for (Method m : c.getDeclaredMethods()) {
            if (!Modifier.isPrivate(m.getModifiers())) {
                check.holds(m + " is public and no static method",
                    Modifier.isPublic(m.getModifiers()) && !Modifier.isStatic(m.getModifiers()));
                StringBuilder parameters = new StringBuilder();
                for (Class<?> p : m.getParameterTypes()) {
                    parameters.append(parameters.length() == 0 ? "" : ",").append(p.getName());
                }
                methods.add(m.getReturnType() + " " + m.getName() + "(" + parameters + ")");
            }
        }
        same("methods", methods, METHODS);
        Set<String> constants = new TreeSet<>();
        for (Field f : c.getDeclaredFields()) {
            if (!Modifier.isPrivate(f.getModifiers())) {
                check.holds(f + " is a public constant of int", Modifier.isPublic(f.getModifiers())
                    && Modifier.isStatic(f.getModifiers()) && f.getType() == int.class);
                constants.add(f.getName());
            }
        }
        same("constants", constants, CONSTANTS);
        Constructor<?>[] constructors = c.getDeclaredConstructors();
        check.due("the number of constructors", constructors.length, 1);
        check.holds("the constructor is public and takes nothing",
            Modifier.isPublic(constructors[0].getModifiers()) && constructors[0].getParameterCount() == 0);
    }

    private static void same(String what, Set<String> got, String[] want) {
        Set<String> due = new TreeSet<>(Arrays.asList(want));
        check.holds("the " + what + " are " + due + ", they are " + got, got.equals(due));
    }

    private static void privateNames() {
        check.at("rule 1, the names of private methods");
        Set<String> open = new TreeSet<>();
        for (String m : METHODS) {
            open.add(m.substring(m.indexOf(' ') + 1, m.indexOf('(')));
        }
        for (Method m : TypebarLayout.class.getDeclaredMethods()) {
            check.holds(m + " has a name of its own",
                !Modifier.isPrivate(m.getModifiers()) || !open.contains(m.getName()));
        }
        for (Class<?> inside : TypebarLayout.class.getDeclaredClasses()) {
            for (Method m : inside.getDeclaredMethods()) {
                check.holds(m + " has a name of its own", !open.contains(m.getName()));
            }
        }
    }

    private static void staticState() {
        check.at("rule 5, static fields");
        for (Field f : TypebarLayout.class.getDeclaredFields()) {
            check.holds(f + " is final if it is static",
                !Modifier.isStatic(f.getModifiers()) || Modifier.isFinal(f.getModifiers()));
        }
    }

    private static void nestedClasses() {
        check.at("rule 2, classes inside");
        for (Class<?> inside : TypebarLayout.class.getDeclaredClasses()) {
            int m = inside.getModifiers();
            check.holds(inside + " is static and not public",
                Modifier.isStatic(m) && !Modifier.isPublic(m) && !Modifier.isProtected(m));
        }
    }

    private static String withoutComments(String source) {
        return source.replaceAll("(?s)/\\*.*?\\*/", "").replaceAll("//[^\n]*", "");
    }

    private static void source(String code) {
        check.at("the source");
        for (String word : RULED_OUT) {
            boolean letters = Character.isLetter(word.charAt(0));
            String pattern = letters ? "\\b" + Pattern.quote(word) + "\\b" : Pattern.quote(word);
            check.holds("rules 2, 4, 6 and 13: no " + word, !Pattern.compile(pattern).matcher(code).find());
        }
        // What is called on a class with a capital letter is the library's.
        Matcher calls = Pattern.compile("\\b([A-Z][a-z]\\w*)\\.(\\w+)").matcher(code);
        Set<String> allowed = Set.of("Math.abs", "Math.max", "Math.min");
        while (calls.find()) {
            check.holds("rule 4: " + calls.group() + " is of the library that is allowed",
                allowed.contains(calls.group()));
        }
    }
}
