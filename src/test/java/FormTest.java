import java.lang.reflect.Constructor;
import java.lang.reflect.Field;
import java.lang.reflect.Method;
import java.lang.reflect.Modifier;
import java.nio.file.Files;
import java.nio.file.Path;
import java.util.List;
import java.util.Set;
import java.util.TreeSet;
import java.util.regex.Matcher;
import java.util.regex.Pattern;
import support.Checks;

/** The rules of LANGUAGE.md that can be told from the class and its source without running it. */
public final class FormTest {
    private static final String FACE = "about back book bow by clear corner doors end explained "
        + "fault feast feed first foretold hour image indoors lane more neck of owe person played "
        + "route settled sure text two undo walk weeks whose";
    private static final Checks CHECKS = new Checks();

    public static void main(String[] args) throws Exception {
        face();
        classes();
        source(Files.readString(Path.of("src/main/java/BowsOwed.java")));
        CHECKS.finish();
    }

    private static void face() {
        CHECKS.about("rule 1");
        Set<String> shown = new TreeSet<>();
        for (Method method : BowsOwed.class.getDeclaredMethods()) {
            if (Modifier.isPublic(method.getModifiers())) {
                shown.add(method.getName());
            } else {
                CHECKS.due(method + " is private", Modifier.isPrivate(method.getModifiers()), true);
                CHECKS.due(method + " has a public name", isOfFace(method), false);
            }
        }
        CHECKS.due("the face is " + shown, shown.equals(new TreeSet<>(List.of(FACE.split(" ")))), true);
        for (Field field : BowsOwed.class.getDeclaredFields()) {
            boolean constant = field.getName().equals("NONE");
            int modifiers = field.getModifiers();
            CHECKS.due(field + " is public", Modifier.isPublic(modifiers), constant);
            CHECKS.due(field + " is private", Modifier.isPrivate(modifiers), !constant);
        }
        CHECKS.due("final", Modifier.isFinal(BowsOwed.class.getModifiers()), true);
        CHECKS.due("constructors", BowsOwed.class.getDeclaredConstructors().length, 1);
        for (Constructor<?> constructor : BowsOwed.class.getDeclaredConstructors()) {
            CHECKS.due("parameters", constructor.getParameterCount(), 0);
        }
    }

    private static boolean isOfFace(Method method) {
        return (" " + FACE + " ").contains(" " + method.getName() + " ");
    }

    private static void classes() {
        CHECKS.about("rules 1, 2, 3, 5, 11");
        Class<?>[] inside = BowsOwed.class.getDeclaredClasses();
        CHECKS.due("classes: " + (inside.length + 1), inside.length + 1 <= 12, true);
        own(BowsOwed.class);
        for (Class<?> one : inside) {
            CHECKS.due(one + " is static", Modifier.isStatic(one.getModifiers()), true);
            CHECKS.due(one + " is shown", Modifier.isPublic(one.getModifiers())
                || Modifier.isProtected(one.getModifiers()), false);
            for (Method method : one.getDeclaredMethods()) {
                CHECKS.due(method + " has a public name", isOfFace(method), false);
            }
            own(one);
        }
    }

    private static void own(Class<?> one) {
        int fields = 0;
        for (Field field : one.getDeclaredFields()) {
            if (Modifier.isStatic(field.getModifiers())) {
                CHECKS.due(field + " is final", Modifier.isFinal(field.getModifiers()), true);
                boolean plain = field.getType().isPrimitive() || field.getType() == String.class;
                CHECKS.due(field + " is a constant", plain, true);
            } else {
                fields++;
            }
        }
        CHECKS.due(one + " has fields: " + fields, fields <= 20, true);
        for (Method method : one.getDeclaredMethods()) {
            CHECKS.due(method + " takes 7 at most", method.getParameterCount() <= 7, true);
        }
    }

    private static void source(String source) {
        CHECKS.about("rules 3, 4, 6, 10, 11");
        String code = source.replaceAll("(?s)/\\*.*?\\*/", "").replaceAll("//[^\n]*", "");
        CHECKS.due("a text is joined by +", code.matches("(?s).*\"\\s*\\+.*|.*\\+\\s*\".*"), false);
        String bare = code.replaceAll("\"[^\"\n]*\"", "\"\"");
        for (String word : List.of("throw", "throws", "try", "catch", "synchronized", "assert",
            "import", "package", "native", "volatile", "transient", "->", "::", "Object", "equals",
            "hashCode", "toString", "Exact", "instanceof", "float", "double")) {
            String edge = Character.isLetter(word.charAt(0)) ? "\\b" : "";
            Matcher found = Pattern.compile(edge + Pattern.quote(word) + edge).matcher(bare);
            CHECKS.due("has " + word, found.find(), false);
        }
        Matcher library = Pattern.compile("\\b(Math|Integer|Long|System|Arrays)\\.(\\w+)").matcher(bare);
        Set<String> allowed = Set.of("Math.max", "Math.min", "Math.abs", "Math.floorMod",
            "Integer.numberOfTrailingZeros", "System.arraycopy");
        while (library.find()) {
            CHECKS.due("uses " + library.group(), allowed.contains(library.group()), true);
        }
        methods(source);
        for (char sign : code.toCharArray()) {
            if (sign > 126) {
                CHECKS.due("sign " + (int) sign, sign, 0);
            }
        }
    }

    /** Counts the lines from each method's head to the brace that closes it. */
    private static void methods(String source) {
        String[] lines = source.split("\n");
        Pattern head = Pattern.compile("( {4}| {8})(\\w[\\w\\[\\]. ]*)\\([^;]*\\{");
        for (int i = 0; i < lines.length; i++) {
            Matcher match = head.matcher(lines[i]);
            if (match.matches()) {
                int end = i;
                while (!lines[end].equals(match.group(1) + "}")) {
                    end++;
                }
                CHECKS.due(lines[i].trim() + " has lines: " + (end - i + 1), end - i + 1 <= 60, true);
            }
        }
    }
}
