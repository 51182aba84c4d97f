import java.io.IOException;
import java.lang.reflect.InvocationTargetException;
import java.net.URL;
import java.net.URLClassLoader;
import java.nio.file.Files;
import java.nio.file.Path;
import java.util.regex.Matcher;
import java.util.regex.Pattern;
import javax.tools.ToolProvider;

/**
 * The README's examples, put one behind the other as one program: each call answers what its comment says.
 * Argument: the README.
 */
final class ReadmeTest {
    private static final Pattern EXAMPLE = Pattern.compile("```java\n(.*?)```", Pattern.DOTALL);
    private static final Pattern LINE = Pattern.compile("(?:(\\w+) (\\w+) = )?(.*?);(?:\\s+// (-?\\d+|true|false)\\b.*)?");

    public static void main(String[] args) throws IOException, ReflectiveOperationException {
        String readme = Files.readString(Path.of(args.length > 0 ? args[0] : "README.md"));
        Path folder = Files.createTempDirectory("readme");
        Path source = Files.writeString(folder.resolve("Readme.java"), program(readme));
        try {
            int failed = ToolProvider.getSystemJavaCompiler().run(null, null, null, "-cp",
                    System.getProperty("java.class.path"), "-d", folder.toString(), source.toString());
            Check.due("compiling the README's examples", failed, 0);
            if (failed == 0) {
                run(folder);
            }
        } finally {
            Files.deleteIfExists(folder.resolve("Readme.class"));
            Files.deleteIfExists(source);
            Files.deleteIfExists(folder);
        }
        Check.end();
    }

    /** A class whose rows() makes the calls, and tells of each one that has a comment: it, what it answered, what is due. */
    private static String program(String readme) {
        StringBuilder program = new StringBuilder("public final class Readme {\n");
        program.append("public static String[][] rows() {\njava.util.List<String[]> rows = new java.util.ArrayList<>();\n");
        Matcher example = EXAMPLE.matcher(readme);
        while (example.find()) {
            example.group(1).lines().forEach(line -> program.append(statement(line)));
        }
        return program.append("return rows.toArray(new String[0][]);\n}\n}\n").toString();
    }

    private static String statement(String line) {
        Matcher parts = LINE.matcher(line);
        Check.due("'" + line + "' is a line of an example", parts.matches(), true);
        String name = parts.group(2) == null ? "any" : parts.group(2);
        String made = (parts.group(1) == null ? "var" : parts.group(1)) + " " + name + " = " + parts.group(3) + ";\n";
        if (parts.group(4) == null) {
            return made;
        }
        String row = "rows.add(new String[] {\"" + parts.group(3) + "\", \"\" + " + name + ", \"" + parts.group(4) + "\"});\n";
        return parts.group(1) == null ? "{\n" + made + row + "}\n" : made + row;
    }

    private static void run(Path folder) throws IOException, ReflectiveOperationException {
        try (URLClassLoader loader = new URLClassLoader(new URL[] {folder.toUri().toURL()})) {
            String[][] rows = (String[][]) loader.loadClass("Readme").getMethod("rows").invoke(null);
            Check.due("the README has examples", rows.length > 0, true);
            for (String[] row : rows) {
                Check.due("the README's " + row[0] + " is told as " + row[2] + ", answers " + row[1],
                        row[1].equals(row[2]), true);
            }
        } catch (InvocationTargetException thrown) {
            Check.due("the README's examples throw " + thrown.getCause(), 1, 0);
        }
    }
}
