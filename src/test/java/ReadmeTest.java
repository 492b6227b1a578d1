import java.io.IOException;
import java.lang.reflect.Method;
import java.lang.reflect.Modifier;
import java.net.URL;
import java.net.URLClassLoader;
import java.nio.file.Files;
import java.nio.file.Path;
import java.util.ArrayList;
import java.util.List;
import java.util.regex.Matcher;
import java.util.regex.Pattern;
import javax.tools.JavaCompiler;
import javax.tools.ToolProvider;
import support.Checks;

/** The code that README.md shows is compiled and run: each call is to answer what stands behind it. */
public final class ReadmeTest {
    private static final Pattern BLOCK = Pattern.compile("(?s)```java\n(.*?)```");
    private static final Pattern ASKED = Pattern.compile(
        "(?:int (\\w+) = )?((?:town\\.\\w+|tell)\\(.*\\)); +// (-?\\d+|true|false)(:.*)?");
    private static final Pattern PATH = Pattern.compile("(?:src|\\.\\./shared|\\.ci)/[\\w/.]*\\w");
    private static final Checks CHECKS = new Checks();

    private ReadmeTest() {
    }

    public static void main(String[] args) throws Exception {
        String readme = Files.readString(Path.of("README.md"));
        List<String> blocks = new ArrayList<>();
        Matcher block = BLOCK.matcher(readme);
        while (block.find()) {
            blocks.add(block.group(1));
        }
        wholeFaceIsShown(String.join("", blocks));
        namedFilesAreThere(readme);
        run(program(blocks));
        CHECKS.finish();
    }

    private static void wholeFaceIsShown(String code) {
        CHECKS.about("README shows");
        for (Method method : BowsOwed.class.getDeclaredMethods()) {
            if (Modifier.isPublic(method.getModifiers())) {
                CHECKS.due(method.getName(), code.contains("town." + method.getName() + "("), true);
            }
        }
    }

    private static void namedFilesAreThere(String readme) {
        CHECKS.about("README names");
        Matcher path = PATH.matcher(readme);
        while (path.find()) {
            CHECKS.due(path.group(), Files.exists(Path.of(path.group())), true);
        }
    }

    /** A class with what blocks tell: a block that begins with a method is one, others are run. */
    private static String program(List<String> blocks) {
        CHECKS.about("README's code");
        StringBuilder methods = new StringBuilder();
        StringBuilder deeds = new StringBuilder();
        for (String block : blocks) {
            if (block.startsWith("static ")) {
                methods.append(block);
            } else {
                deeds.append("{\n");
                for (String line : block.split("\n")) {
                    deeds.append(held(line));
                }
                deeds.append("}\n");
            }
        }
        return "public final class Shown {\n" + methods
            + "public static void run(support.Checks checks) {\n" + deeds + "}\n}\n";
    }

    /** A line with the question whether its call answers as due. */
    private static String held(String line) {
        Matcher asked = ASKED.matcher(line);
        if (!asked.matches()) {
            boolean calls = line.contains("town.") || line.contains("tell(");
            CHECKS.due("has an answer: " + line, calls, false);
            return line + "\n";
        }
        String name = asked.group(1);
        String call = asked.group(2);
        String made = name == null ? "" : "int " + name + " = " + call + ";\n";
        String text = call.replace("\\", "\\\\").replace("\"", "\\\"");
        return made + "checks.due(\"" + text + "\", " + (name == null ? call : name) + ", "
            + asked.group(3) + ");\n";
    }

    private static void run(String program) throws Exception {
        Path out = Files.createTempDirectory("readme");
        Path source = out.resolve("Shown.java");
        try {
            Files.writeString(source, program);
            JavaCompiler compiler = ToolProvider.getSystemJavaCompiler();
            int failed = compiler.run(null, null, null, "-cp", System.getProperty("java.class.path"),
                "-d", out.toString(), source.toString());
            CHECKS.due("compiles", failed, 0);
            if (failed == 0) {
                URL[] place = {out.toUri().toURL()};
                try (URLClassLoader loader = new URLClassLoader(place, ReadmeTest.class.getClassLoader())) {
                    loader.loadClass("Shown").getMethod("run", Checks.class).invoke(null, CHECKS);
                }
            }
        } finally {
            remove(out);
        }
    }

    private static void remove(Path out) throws IOException {
        for (String name : List.of("Shown.java", "Shown.class")) {
            Files.deleteIfExists(out.resolve(name));
        }
        Files.deleteIfExists(out);
    }
}
