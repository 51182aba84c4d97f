import java.io.IOException;
import java.nio.file.Files;
import java.nio.file.Path;
import java.util.ArrayList;
import java.util.List;
import java.util.Map;
import java.util.Set;
import java.util.TreeMap;
import java.util.TreeSet;
import java.util.regex.Matcher;
import java.util.regex.Pattern;
import java.util.stream.Stream;

/**
 * What the tests say that they hold stands in the document, word for word, and nothing of its promises and Terms
 * is left without a test that says so. Arguments: the document, the folder of the tests.
 */
final class SentenceTest {
    private static final Pattern HOLDS = Pattern.compile(
            "Check\\.holds\\(\\s*\"([^\"]*)\",\\s*(\"[^\"]*\"(?:\\s*\\+\\s*\"[^\"]*\")*)\\s*\\)");

    public static void main(String[] args) throws IOException {
        Path document = Path.of(args.length > 0 ? args[0] : "../shared/DOC.md");
        Path tests = Path.of(args.length > 1 ? args[1] : "src/test/java");
        if (!Files.exists(document)) {
            System.out.println("the document is not at " + document + ", nothing is looked up");
            return;
        }
        Map<String, String> parts = parts(Files.readString(document));
        Map<String, boolean[]> held = new TreeMap<>();
        parts.forEach((name, text) -> held.put(name, new boolean[text.length()]));
        Map<String, Set<String>> where = new TreeMap<>();
        int sentences = 0;
        for (Path file : javaFiles(tests)) {
            Matcher matcher = HOLDS.matcher(Files.readString(file));
            while (matcher.find()) {
                lookUp(file, matcher.group(1), literal(matcher.group(2)), parts, held);
                where.computeIfAbsent(matcher.group(1), name -> new TreeSet<>()).add(testName(file));
                sentences++;
            }
        }
        Check.due("tests that say what they hold", sentences > 0, true);
        for (int promise = 1; promise <= 46; promise++) {
            Check.due("the document has promise " + promise, parts.containsKey("Promise " + promise), true);
        }
        parts.forEach((name, text) -> {
            if (name.equals("Terms") || name.startsWith("Promise ")) {
                Check.due("words of " + name + " that no test says it holds: " + left(text, held.get(name)),
                        left(text, held.get(name)).size(), 0);
            }
        });
        where.forEach((name, files) -> System.out.println(name + ": " + String.join(", ", files)));
        System.out.println(sentences + " sentences, or parts of them, are held by tests");
        Check.end();
    }

    private static List<Path> javaFiles(Path folder) throws IOException {
        try (Stream<Path> files = Files.list(folder)) {
            return files.filter(file -> file.toString().endsWith("Test.java")).sorted().toList();
        }
    }

    private static String testName(Path file) {
        return file.getFileName().toString().replace(".java", "");
    }

    /** The sections by their titles (a promise's without what it is called), all blanks alike. */
    private static Map<String, String> parts(String document) {
        Map<String, String> parts = new TreeMap<>();
        for (String section : document.split("(?m)^## ")) {
            String title = section.lines().findFirst().orElse("").replaceFirst(": .*", "");
            String text = section.substring(section.indexOf('\n') + 1).replaceAll("```(text|java)?", " ")
                    .replaceAll("==== [IVX]+\\.", " ").replaceFirst("^\\s*`[^`]*`: ", "");
            parts.put(title, text.replaceAll("\\s+", " ").trim());
        }
        return parts;
    }

    private static String literal(String quoted) {
        StringBuilder text = new StringBuilder();
        Matcher piece = Pattern.compile("\"([^\"]*)\"").matcher(quoted);
        while (piece.find()) {
            text.append(piece.group(1));
        }
        return text.toString();
    }

    private static void lookUp(Path file, String part, String said, Map<String, String> parts,
            Map<String, boolean[]> held) {
        String text = parts.getOrDefault(part, "");
        int at = text.indexOf(said);
        Check.due(file.getFileName() + ": '" + said + "' stands in " + part, at >= 0, true);
        while (at >= 0) {
            for (int i = at; i < at + said.length(); i++) {
                held.get(part)[i] = true;
            }
            at = text.indexOf(said, at + 1);
        }
    }

    /** The words of the text of which not all is held. */
    private static List<String> left(String text, boolean[] held) {
        List<String> left = new ArrayList<>();
        Matcher word = Pattern.compile("\\S+").matcher(text);
        while (word.find()) {
            for (int i = word.start(); i < word.end(); i++) {
                if (!held[i]) {
                    left.add(word.group());
                    break;
                }
            }
        }
        return left;
    }
}
