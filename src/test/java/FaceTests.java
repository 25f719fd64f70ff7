import java.lang.reflect.Constructor;
import java.lang.reflect.Field;
import java.lang.reflect.Method;
import java.lang.reflect.Modifier;
import java.nio.file.Files;
import java.nio.file.Path;
import java.util.Set;
import java.util.TreeSet;
import java.util.regex.Matcher;
import java.util.regex.Pattern;

/** The class has the document's face and no more, and its text keeps out of what LANGUAGE.md forbids. */
public final class FaceTests {
    private static final Set<String> METHODS = Set.of("say/3", "unsay/3", "pattern/3", "rule/0", "unrule/1",
            "rules/0", "holds/3", "support/3", "size/0", "next/1", "fitting/3", "clear/0");
    private static final Set<String> CONSTANTS = Set.of("BAD", "NO", "FULL");
    private static final String[] FORBIDDEN = {"throw", "throws", "try", "catch", "synchronized", "assert",
        "import", "package", "->", "::", "protected", "System", "Exact", "random", "hashCode", "toString"};

    private static int wrong = 0;

    private static void check(boolean good, String otherwise) {
        if (!good) {
            wrong++;
            System.out.println(otherwise);
        }
    }

    public static void main(String[] args) throws Exception {
        members();
        nestedClasses();
        forbiddenWords();
        System.out.println(wrong == 0 ? "the face is as told" : wrong + " faults of the face");
        if (wrong != 0) {
            System.exit(1);
        }
    }

    private static void members() {
        Class<?> face = RuleKeeper.class;
        check(Modifier.isPublic(face.getModifiers()) && Modifier.isFinal(face.getModifiers()), "not public final");
        check(face.getSuperclass() == Object.class && face.getInterfaces().length == 0, "it is more than itself");
        Set<String> seen = new TreeSet<>();
        for (Method m : face.getDeclaredMethods()) {
            String name = m.getName() + "/" + m.getParameterCount();
            if (Modifier.isPrivate(m.getModifiers())) {
                check(METHODS.stream().noneMatch(p -> p.startsWith(m.getName() + "/")), "private too: " + name);
                continue;
            }
            seen.add(name);
            check(Modifier.isPublic(m.getModifiers()) && !Modifier.isStatic(m.getModifiers()), "odd method " + name);
            check(m.getReturnType() == int.class, "odd answer of " + name);
            for (Class<?> type : m.getParameterTypes()) {
                check(type == int.class, "odd parameter of " + name);
            }
        }
        check(seen.equals(METHODS), "methods are " + seen);
        Set<String> constants = new TreeSet<>();
        for (Field f : face.getDeclaredFields()) {
            boolean isStatic = Modifier.isStatic(f.getModifiers());
            check(!isStatic || Modifier.isFinal(f.getModifiers()), "static and not final: " + f.getName());
            if (!Modifier.isPrivate(f.getModifiers())) {
                constants.add(f.getName());
                check(isStatic && Modifier.isPublic(f.getModifiers()), "odd field " + f.getName());
                check(f.getType() == int.class, "odd constant " + f.getName());
            }
        }
        check(constants.equals(CONSTANTS), "constants are " + constants);
        Constructor<?>[] made = face.getDeclaredConstructors();
        check(made.length == 1 && Modifier.isPublic(made[0].getModifiers())
                && made[0].getParameterCount() == 0, "constructors are not one");
    }

    private static void nestedClasses() {
        Class<?>[] nested = RuleKeeper.class.getDeclaredClasses();
        check(nested.length <= 12, "classes: " + nested.length);
        for (Class<?> c : nested) {
            check(Modifier.isStatic(c.getModifiers()), "not static: " + c.getName());
            check(c.getDeclaredFields().length <= 20, "fields of " + c.getName());
            for (Method m : c.getDeclaredMethods()) {
                check(m.getParameterCount() <= 7, "parameters of " + m.getName());
                check(METHODS.stream().noneMatch(p -> p.startsWith(m.getName() + "/")), "named as a public one: " + m);
            }
        }
    }

    private static void forbiddenWords() throws Exception {
        String text = Files.readString(Path.of("src/main/java/RuleKeeper.java"));
        String code = text.replaceAll("(?s)/\\*.*?\\*/", " ").replaceAll("//[^\n]*", " ");
        for (String word : FORBIDDEN) {
            boolean isWord = Character.isLetter(word.charAt(0));
            Matcher m = Pattern.compile(isWord ? "\\b" + word + "\\b" : Pattern.quote(word)).matcher(code);
            check(!m.find(), "the text has: " + word);
        }
        check(text.chars().allMatch(ch -> ch < 128), "the text has characters beyond ASCII");
    }
}
