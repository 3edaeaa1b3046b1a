import java.io.IOException;
import java.lang.reflect.Method;
import java.lang.reflect.Modifier;
import java.net.URL;
import java.net.URLClassLoader;
import java.nio.file.Files;
import java.nio.file.Path;
import java.util.regex.Matcher;
import java.util.regex.Pattern;
import javax.tools.ToolProvider;

/** The example of README.md gives the answers that stand behind its calls, and every call of the face is told there. */
public final class ReadmeTests {
    private static final Pattern BLOCK = Pattern.compile("```java\n(.*?)```", Pattern.DOTALL);
    private static final Pattern ANSWER = Pattern.compile("(x\\.(\\w+)\\(.*\\)); +// (-?\\d+|true|false)(?:: (.*))?");

    private static int wrong = 0;
    private static int answers = 0;

    public static void main(String[] args) throws Exception {
        String readme = Files.readString(Path.of("README.md"));
        for (Method method : ArmExpander.class.getDeclaredMethods()) {
            if (Modifier.isPublic(method.getModifiers())) {
                tells(readme, "| `" + method.getName() + "(");
                tells(readme, "\nx." + method.getName() + "(");
            }
        }
        Path folder = Files.createTempDirectory("readme");
        try {
            run(folder, program(readme));
        } finally {
            Files.deleteIfExists(folder.resolve("Example.java"));
            Files.deleteIfExists(folder.resolve("Example.class"));
            Files.deleteIfExists(folder);
        }
        if (answers == 0) {
            wrong++;
            System.out.println("README.md has no example");
        }
        System.out.println(wrong == 0 ? answers + " answers of README.md are as due" : wrong + " faults in README.md");
        if (wrong != 0) {
            System.exit(1);
        }
    }

    /** Called by the example: what a call of it answered, and what stands behind it. */
    public static void answer(String call, Object got, Object told) {
        answers++;
        if (!got.equals(told)) {
            wrong++;
            System.out.println("README.md: " + call + " answered " + got + ", told is " + told);
        }
    }

    /** Called by the example: what a text came to, token by token, is what stands behind its call. */
    public static void outcome(ArmExpander x, String told) {
        StringBuilder got = new StringBuilder();
        for (int k = 0; x.token(k) != -1; k++) {
            got.append(k > 0 ? " " : "").append(Checks.shown(x.token(k)));
        }
        answer("the outcome", got.toString(), told);
    }

    private static void tells(String readme, String words) {
        if (!readme.contains(words)) {
            wrong++;
            System.out.println("README.md does not have: " + words.trim());
        }
    }

    /** The blocks of README.md as a class: those with methods as they are, those with calls in its main method. */
    private static String program(String readme) {
        StringBuilder methods = new StringBuilder();
        StringBuilder calls = new StringBuilder();
        Matcher blocks = BLOCK.matcher(readme);
        while (blocks.find()) {
            String block = blocks.group(1);
            if (block.startsWith("static ")) {
                methods.append(block);
            } else {
                for (String line : block.split("\n")) {
                    calls.append(compared(line)).append('\n');
                }
            }
        }
        return "public class Example {\n" + methods + "public static void run() {\n" + calls + "}\n}\n";
    }

    private static String compared(String line) {
        Matcher call = ANSWER.matcher(line);
        if (!call.matches()) {
            if (line.startsWith("x.")) {
                wrong++;
                System.out.println("README.md tells no answer: " + line);
            }
            return line;
        }
        String check = "ReadmeTests.answer(\"" + call.group(1) + "\", " + call.group(1) + ", " + call.group(3) + ");";
        if (!call.group(2).equals("expand") || call.group(3).startsWith("-")) {
            return check;
        }
        return check + "ReadmeTests.outcome(x, \"" + call.group(4) + "\");";
    }

    private static void run(Path folder, String program) throws IOException, ReflectiveOperationException {
        Path source = Files.writeString(folder.resolve("Example.java"), program);
        int code = ToolProvider.getSystemJavaCompiler().run(null, null, null, "-cp",
                System.getProperty("java.class.path"), "-d", folder.toString(), source.toString());
        if (code != 0) {
            wrong++;
            System.out.println("README.md: the example does not compile");
            return;
        }
        try (URLClassLoader loader = new URLClassLoader(new URL[] {folder.toUri().toURL()})) {
            loader.loadClass("Example").getMethod("run").invoke(null);
        }
    }
}
