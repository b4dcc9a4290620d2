import java.io.IOException;
import java.lang.reflect.InvocationTargetException;
import java.lang.reflect.Method;
import java.lang.reflect.Modifier;
import java.net.URL;
import java.net.URLClassLoader;
import java.nio.file.Files;
import java.nio.file.Path;
import java.util.regex.Matcher;
import java.util.regex.Pattern;
import javax.tools.JavaCompiler;
import javax.tools.ToolProvider;

/**
 * Runs the blocks of README.md, one behind the other, and looks whether each call there answers the
 * number that stands behind it, and whether all calls of the face are shown.
 */
public final class ReadmeTest {
    private static final Pattern BLOCK = Pattern.compile("(?ms)^```java\n(.*?)^```$");
    private static final Pattern ANSWERED = Pattern.compile("(?m)^(x\\.\\w+\\([^;]*\\)); *// (-?\\d+)\\b.*$");
    private static final int CALLS_MOST = 512;

    /** A class that has the functions of the page, and all else in its main method. */
    private static String asClass(String page) {
        StringBuilder functions = new StringBuilder();
        StringBuilder calls = new StringBuilder();
        Matcher block = BLOCK.matcher(page);
        while (block.find()) {
            boolean isFunction = block.group(1).startsWith("static ");
            (isFunction ? functions : calls).append(block.group(1));
        }
        return "public final class Page {\n"
            + "public static int wrong = 0;\n"
            + "static void due(String call, int got, int want) {\n"
            + "if (got != want) { wrong++; System.out.println(call + \" answered \" + got + \", README.md says \" + want); }\n"
            + "}\n"
            + functions
            + "public static void main(String[] none) {\n"
            + ANSWERED.matcher(calls).replaceAll(m -> "due(\"" + m.group(1) + "\", " + m.group(1) + ", " + m.group(2) + ");")
            + "}\n}\n";
    }

    private static int run(String source) throws IOException, ReflectiveOperationException {
        Path folder = Files.createTempDirectory("readme");
        Path file = folder.resolve("Page.java");
        Path compiled = folder.resolve("Page.class");
        try {
            Files.writeString(file, source);
            String classes = System.getProperty("java.class.path");
            JavaCompiler compiler = ToolProvider.getSystemJavaCompiler();
            if (compiler == null || compiler.run(null, null, null, "-cp", classes, "-d", folder.toString(), file.toString()) != 0) {
                System.out.println("README.md is not Java");
                return 1;
            }
            try (URLClassLoader loader = new URLClassLoader(new URL[] {folder.toUri().toURL()})) {
                Class<?> page = loader.loadClass("Page");
                page.getMethod("main", String[].class).invoke(null, (Object) new String[0]);
                return page.getField("wrong").getInt(null);
            }
        } catch (InvocationTargetException e) {
            System.out.println("README.md: " + e.getCause());
            return 1;
        } finally {
            Files.deleteIfExists(file);
            Files.deleteIfExists(compiled);
            Files.deleteIfExists(folder);
        }
    }

    public static void main(String[] args) throws IOException, ReflectiveOperationException {
        String source = asClass(Files.readString(Path.of("README.md")));
        int wrong = run(source);
        for (Method method : CatNeed.class.getDeclaredMethods()) {
            boolean shown = source.contains("x." + method.getName() + "(");
            if (Modifier.isPublic(method.getModifiers()) && !shown) {
                wrong++;
                System.out.println("README.md does not show " + method.getName());
            }
        }
        int answers = source.split("due\\(\"", -1).length - 1;
        if (answers < 40 || answers > CALLS_MOST) {
            wrong++;
            System.out.println("README.md has " + answers + " answers");
        }
        System.out.println("readme: " + answers + " answers, " + wrong + " not as they are");
        if (wrong != 0) {
            System.exit(1);
        }
    }
}
