import java.io.File;
import java.io.IOException;
import java.lang.reflect.Method;
import java.lang.reflect.Modifier;
import java.nio.file.Files;
import java.nio.file.Path;
import java.util.Set;
import java.util.TreeSet;
import java.util.regex.Matcher;
import java.util.regex.Pattern;

/** What README.md says of answers is what the class answers, and it leaves out no method, code or test. */
public final class ReadmeTest {
    private static final Pattern BLOCK = Pattern.compile("(?s)\n```java\n(.*?)\n```\n");
    private static final String NEW_OBJECT = "TypebarLayout t = new TypebarLayout();";
    private static final Pattern CALL =
        Pattern.compile("t\\.(\\w+)\\(([^()]*)\\); +// (-?\\d+|[A-Z_]+)(:? .*)?");
    private static final Pattern CODE = Pattern.compile("\\| `([A-Z_]+)` \\| (-\\d+) \\|");

    private static final Check check = new Check();
    private static final Set<String> shown = new TreeSet<>();

    public static void main(String[] args) throws IOException, ReflectiveOperationException {
        String readme = Files.readString(Path.of("README.md"));
        Matcher blocks = BLOCK.matcher(readme);
        int number = 0;
        while (blocks.find()) {
            number++;
            check.at("README.md, example " + number);
            example(blocks.group(1));
        }
        eachMethodIsShown();
        codes(readme);
        eachTestIsTold(readme);
        check.end();
    }

    private static void example(String lines) throws ReflectiveOperationException {
        TypebarLayout x = null;
        for (String line : lines.split("\n")) {
            Matcher call = CALL.matcher(line);
            if (line.equals(NEW_OBJECT)) {
                x = new TypebarLayout();
            } else if (x != null && call.matches()) {
                String name = call.group(1);
                shown.add(name);
                check.due(name + "(" + call.group(2) + ")", answer(x, name, call.group(2)), due(call.group(3)));
            } else {
                check.holds("a call of a new object with its answer: " + line, false);
            }
        }
    }

    private static long answer(TypebarLayout x, String name, String list) throws ReflectiveOperationException {
        String[] words = list.isEmpty() ? new String[0] : list.split(", ");
        Class<?>[] types = new Class<?>[words.length];
        Object[] values = new Object[words.length];
        for (int k = 0; k < words.length; k++) {
            types[k] = int.class;
            values[k] = words[k].matches("'.'") ? (int) words[k].charAt(1) : Integer.parseInt(words[k]);
        }
        Number got = (Number) TypebarLayout.class.getMethod(name, types).invoke(x, values);
        return got.longValue();
    }

    private static long due(String word) throws ReflectiveOperationException {
        return Character.isLetter(word.charAt(0)) ? TypebarLayout.class.getField(word).getInt(null)
            : Long.parseLong(word);
    }

    private static void eachMethodIsShown() {
        check.at("README.md, its examples");
        for (Method m : TypebarLayout.class.getDeclaredMethods()) {
            if (Modifier.isPublic(m.getModifiers())) {
                check.holds(m.getName() + " is shown", shown.contains(m.getName()));
            }
        }
    }

    private static void codes(String readme) throws ReflectiveOperationException {
        check.at("README.md, its codes");
        int told = 0;
        Matcher codes = CODE.matcher(readme);
        while (codes.find()) {
            told++;
            check.due(codes.group(1), due(codes.group(1)), Long.parseLong(codes.group(2)));
        }
        check.due("the number of codes", told, 6);
    }

    private static void eachTestIsTold(String readme) {
        check.at("README.md, its tests");
        String[] names = new File("src/test/java").list();
        for (String name : names == null ? new String[0] : names) {
            String test = name.replace(".java", "");
            check.holds(test + " is told", !test.endsWith("Test") || readme.contains("| `" + test + "` |"));
        }
    }
}
