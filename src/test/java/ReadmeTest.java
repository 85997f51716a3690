import java.io.ByteArrayOutputStream;
import java.io.IOException;
import java.lang.reflect.Method;
import java.lang.reflect.Modifier;
import java.net.URL;
import java.net.URLClassLoader;
import java.nio.file.Files;
import java.nio.file.Path;
import java.util.ArrayList;
import java.util.List;
import java.util.regex.Matcher;
import java.util.regex.Pattern;
import javax.tools.JavaCompiler;
import javax.tools.ToolProvider;

/**
 * Makes the calls that README.md shows and compares their answers. The page's own lines are compiled, so that
 * what a reader would copy is what is tested.
 */
public final class ReadmeTest {
    private static final Pattern SHOWN = Pattern.compile("(house\\.\\w+\\(.*\\)); +// (true|false|-?\\d+)(:.*)?");
    private static final Pattern SILENT = Pattern.compile("house\\.(stop|clearWays)\\(.*\\);");

    private static final StringBuilder HELPERS = new StringBuilder();
    private static final StringBuilder CALLS = new StringBuilder();

    public static void main(String[] args) throws Exception {
        String page = Files.readString(Path.of("README.md"));
        Matcher block = Pattern.compile("(?s)```java\n(.*?)```").matcher(page);
        while (block.find()) {
            readBlock(block.group(1));
        }
        int shown = 0;
        for (String[] call : answers()) {
            Check.same("README.md: " + call[0], call[1], call[2]);
            shown++;
        }
        Check.yes("calls are shown", shown > 0);
        everyMethod(page);
        Check.end();
    }

    private static void readBlock(String block) {
        if (block.startsWith("static ")) {
            HELPERS.append(block);
            return;
        }
        for (String line : block.split("\n")) {
            Matcher shown = SHOWN.matcher(line);
            if (shown.matches()) {
                String call = shown.group(1);
                CALLS.append("made.add(new String[] {\"").append(call.replace("\"", "\\\"")).append("\", \"\" + ");
                CALLS.append(call).append(", \"").append(shown.group(2)).append("\"});\n");
            } else {
                Check.yes("an answer stands behind " + line, !line.startsWith("house.") || SILENT.matcher(line).matches());
                CALLS.append(line).append('\n');
            }
        }
    }

    /** Each call of the page, with what it answers and what the page says. */
    private static List<String[]> answers() throws Exception {
        Path folder = Files.createTempDirectory("readme");
        Path source = folder.resolve("Shown.java");
        Files.writeString(source, "public final class Shown {\n" + HELPERS
                + "public static void make(java.util.List<String[]> made) {\n" + CALLS + "}\n}\n");
        List<String[]> made = new ArrayList<>();
        if (compiles(source, folder)) {
            try (URLClassLoader loader = new URLClassLoader(new URL[] {folder.toUri().toURL()})) {
                loader.loadClass("Shown").getMethod("make", List.class).invoke(null, made);
            }
        }
        Files.deleteIfExists(folder.resolve("Shown.class"));
        Files.deleteIfExists(source);
        Files.deleteIfExists(folder);
        return made;
    }

    private static boolean compiles(Path source, Path folder) throws IOException {
        JavaCompiler compiler = ToolProvider.getSystemJavaCompiler();
        if (compiler == null) {
            Check.yes("there is a compiler", false);
            return false;
        }
        ByteArrayOutputStream words = new ByteArrayOutputStream();
        int code = compiler.run(null, words, words, "-cp", System.getProperty("java.class.path"),
                "-d", folder.toString(), source.toString());
        Check.yes("the page's lines compile: " + words, code == 0);
        return code == 0;
    }

    private static void everyMethod(String page) {
        for (Method method : StageHouse.class.getDeclaredMethods()) {
            if (Modifier.isPublic(method.getModifiers())) {
                Check.yes("README.md shows " + method.getName(), page.contains("house." + method.getName() + "("));
            }
        }
    }
}
