import java.io.IOException;
import java.nio.charset.StandardCharsets;
import java.nio.file.Files;
import java.nio.file.Path;
import java.util.ArrayList;
import java.util.LinkedHashMap;
import java.util.List;
import java.util.Map;
import java.util.regex.Matcher;
import java.util.regex.Pattern;
import java.util.stream.Stream;

/**
 * That each sentence of the document has a test of its own: the words that the tests say they test (Due.says) stand in
 * the document, and no word of its terms, parts and promises is left over.
 */
public final class SentencesTest {
    private static final Path DOCUMENT = Path.of("../shared/DOC.md"), TESTS = Path.of("src/test/java");
    /** What names no boundary case, nor anything else that a call could answer by itself. */
    private static final String[][] PLAIN = {{"Terms", "Numbers go from 0 on."}, {"Terms", "Sets are bits."}};

    private static final Pattern SAYS = Pattern.compile("Due\\.says\\(\\s*\"([^\"]*)\",\\s*((?:\"[^\"]*\"[\\s+]*)+)\\)");

    private final Map<String, String> parts = new LinkedHashMap<>();
    private final Map<String, boolean[]> told = new LinkedHashMap<>();

    public static void main(String[] args) throws IOException {
        if (!Files.isReadable(DOCUMENT)) {
            System.out.println("not looked at: there is no " + DOCUMENT);
            return;
        }
        SentencesTest test = new SentencesTest();
        test.cut(Files.readString(DOCUMENT, StandardCharsets.UTF_8));
        for (String[] words : PLAIN) {
            test.tell(words[0], words[1]);
        }
        test.readTests();
        test.leftOver();
        Due.end();
    }

    private void part(String name, String text) {
        String words = text.replaceAll("(?m)^```.*$", " ").replaceAll("(?m)^`[^`]*`: ", " ").replaceAll("\\s+", " ").trim();
        parts.put(name, words);
        told.put(name, new boolean[words.length()]);
    }

    private void cut(String document) {
        Matcher terms = Pattern.compile("(?s)\n## Terms\n(.*?)\n=+ 1 ").matcher(document);
        if (terms.find()) {
            part("Terms", terms.group(1));
        }
        Matcher part = Pattern.compile("(?s)\n=+ (\\d) (.*?)(?=\n=+ |\nAhead of the calls)").matcher(document);
        while (part.find()) {
            part(part.group(1), part.group(2));
        }
        Matcher promise = Pattern.compile("(?s)\n## (Promise \\d+): [^\n]*\n(.*?)(?=\n## )").matcher(document);
        while (promise.find()) {
            part(promise.group(1), promise.group(2));
        }
        Due.is("terms, four parts, 35 promises", 40, parts.size());
    }

    private void readTests() throws IOException {
        List<Path> files = new ArrayList<>();
        try (Stream<Path> all = Files.list(TESTS)) {
            all.filter(file -> file.getFileName().toString().startsWith("Bounds")).sorted().forEach(files::add);
        }
        int tests = 0;
        for (Path file : files) {
            String source = Files.readString(file, StandardCharsets.UTF_8);
            Matcher says = SAYS.matcher(source);
            while (says.find()) {
                tell(says.group(1), says.group(2).trim().replaceAll("\"\\s*\\+\\s*\"", "").replaceAll("^\"|\"$", ""));
                tests++;
            }
            Due.is("each of its says() is read: " + file, source.split("Due\\.says\\(", -1).length - 1, tests(source));
        }
        System.out.println(tests + " sentences with a test of their own");
        Due.holds("tests of sentences", tests > 0);
    }

    private static int tests(String source) {
        return (int) SAYS.matcher(source).results().count();
    }

    private void tell(String part, String words) {
        String text = parts.getOrDefault(part, "");
        int at = text.indexOf(words);
        Due.holds(part + " says \"" + words + "\"", at >= 0);
        for (; at >= 0; at = text.indexOf(words, at + 1)) {
            java.util.Arrays.fill(told.get(part), at, at + words.length(), true);
        }
    }

    private void leftOver() {
        for (Map.Entry<String, String> part : parts.entrySet()) {
            StringBuilder left = new StringBuilder();
            for (int k = 0; k < part.getValue().length(); k++) {
                char c = part.getValue().charAt(k);
                left.append(told.get(part.getKey())[k] || !Character.isLetterOrDigit(c) ? ' ' : c);
            }
            Due.is(part.getKey() + ": no test of \"" + left.toString().replaceAll("\\s+", " ").trim() + "\"", 0,
                left.toString().trim().length());
        }
    }
}
