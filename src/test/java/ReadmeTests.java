import java.lang.reflect.Field;
import java.lang.reflect.Method;
import java.lang.reflect.Modifier;
import java.nio.file.Files;
import java.nio.file.Path;
import java.util.ArrayList;
import java.util.List;
import java.util.Set;
import java.util.TreeSet;
import java.util.regex.Matcher;
import java.util.regex.Pattern;

/**
 * README.md tells how the class is used: the calls of its examples answer as it says behind them, and
 * no public member is left out. Run from the project's folder.
 */
public final class ReadmeTests {
    private static final Pattern CALL =
            Pattern.compile("keeper\\.(\\w+)\\(([-0-9, ]*)\\); +// (-?[0-9]+|BAD|NO|FULL)(:.*)?");
    private static final String MAKING = "RuleKeeper keeper = new RuleKeeper();";

    private static int wrong = 0;

    private static void check(boolean good, String otherwise) {
        if (!good) {
            wrong++;
            System.out.println(otherwise);
        }
    }

    public static void main(String[] args) throws Exception {
        List<String> lines = Files.readAllLines(Path.of("README.md"));
        Set<String> called = examples(lines);
        members(lines, called);
        constants(lines);
        System.out.println(wrong == 0 ? "the README tells what is" : wrong + " faults of the README");
        if (wrong != 0) {
            System.exit(1);
        }
    }

    /** Makes the calls of all Java blocks: the names of those that were made. */
    private static Set<String> examples(List<String> lines) throws Exception {
        Set<String> called = new TreeSet<>();
        RuleKeeper keeper = null;
        boolean inside = false;
        for (String line : lines) {
            if (line.startsWith("```")) {
                inside = line.equals("```java");
                keeper = null;
            } else if (inside && line.equals(MAKING)) {
                keeper = new RuleKeeper();
            } else if (inside) {
                check(keeper != null, "no object for: " + line);
                called.add(example(keeper == null ? new RuleKeeper() : keeper, line));
            }
        }
        return called;
    }

    private static String example(RuleKeeper keeper, String line) throws Exception {
        Matcher m = CALL.matcher(line);
        if (!m.matches()) {
            check(false, "no call with its answer: " + line);
            return "";
        }
        List<Object> given = new ArrayList<>();
        for (String number : m.group(2).split(",")) {
            if (!number.isBlank()) {
                given.add(Integer.valueOf(number.trim()));
            }
        }
        Class<?>[] types = new Class<?>[given.size()];
        java.util.Arrays.fill(types, int.class);
        Object got = RuleKeeper.class.getMethod(m.group(1), types).invoke(keeper, given.toArray());
        check(got.equals(valueOf(m.group(3))), line + " answered " + got);
        return m.group(1);
    }

    private static Object valueOf(String answer) throws Exception {
        if (Character.isLetter(answer.charAt(0))) {
            return RuleKeeper.class.getField(answer).get(null);
        }
        return Integer.valueOf(answer);
    }

    /** Each public method has a row with all its parameters, and a call in an example. */
    private static void members(List<String> lines, Set<String> called) {
        rowOf(lines, "| `RuleKeeper()` |");
        for (Method m : RuleKeeper.class.getDeclaredMethods()) {
            if (Modifier.isPublic(m.getModifiers())) {
                int count = m.getParameterCount();
                String parameters = count == 3 ? "a, b, c" : count == 0 ? "" : m.getName().equals("next") ? "n" : "k";
                rowOf(lines, "| `" + m.getName() + "(" + parameters + ")` |");
                check(called.contains(m.getName()), "no example calls " + m.getName());
            }
        }
    }

    private static void constants(List<String> lines) throws Exception {
        for (Field f : RuleKeeper.class.getFields()) {
            rowOf(lines, "| `" + f.getName() + "` | " + f.get(null) + " |");
        }
    }

    private static void rowOf(List<String> lines, String start) {
        check(lines.stream().filter(line -> line.startsWith(start)).count() == 1, "not one row begins: " + start);
    }
}
