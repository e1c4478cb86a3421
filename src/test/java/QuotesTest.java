import java.io.IOException;
import java.nio.file.Files;
import java.nio.file.Path;
import java.util.ArrayList;
import java.util.Arrays;
import java.util.List;
import java.util.Map;
import java.util.Set;
import java.util.TreeMap;
import java.util.regex.Matcher;
import java.util.regex.Pattern;

/**
 * No test of the class, but of its tests: what they quote by Check.says stands in the document where
 * they say, and there is no sentence of it that no test quotes.
 */
final class QuotesTest {
    private static final String TEXT = "\"((?:[^\"\\\\]|\\\\.)*)\"";
    private static final Pattern SAYS = Pattern.compile(
            "Check\\.says\\(\\s*" + TEXT + "\\s*,\\s*((?:" + TEXT + "\\s*\\+?\\s*)+)\\)");
    private static final Pattern HEADING = Pattern.compile("(?m)^(?:## (Promise \\d+): .*"
            + "|==== (\\d)\\. |(The constants): |## (What it is|The public face|Terms|Not promised)\n)");
    /** EdgeFaceTest reads the face from the document itself; what isn't promised isn't tested. */
    private static final Set<String> NEED_NO_QUOTES = Set.of("The public face", "Not promised");

    private QuotesTest() {
    }

    public static void main(String[] args) throws IOException {
        String document = Files.readString(Path.of("../shared/DOC.md"));
        Map<String, String> sections = sections(document);
        Map<String, boolean[]> quoted = new TreeMap<>();
        sections.forEach((name, text) -> quoted.put(name, new boolean[text.length()]));
        try (var files = Files.list(Path.of("src/test/java"))) {
            for (Path file : files.filter(f -> f.toString().endsWith("Test.java")).toList()) {
                Matcher says = SAYS.matcher(Files.readString(file));
                while (says.find()) {
                    mark(file, says.group(1), words(says.group(2)), sections, quoted);
                }
            }
        }
        for (String name : sections.keySet()) {
            if (!NEED_NO_QUOTES.contains(name)) {
                String rest = rest(sections.get(name), quoted.get(name));
                Check.due(name + ", not quoted: " + rest, rest.isEmpty(), true);
            }
        }
        Check.end();
    }

    private static String plain(String text) {
        return text.replaceAll("```text|```", " ").replaceAll("\\s+", " ").trim();
    }

    private static Map<String, String> sections(String document) {
        Map<String, String> sections = new TreeMap<>();
        Matcher heading = HEADING.matcher(document);
        List<int[]> places = new ArrayList<>();
        List<String> names = new ArrayList<>();
        while (heading.find()) {
            places.add(new int[] {heading.start(), heading.end()});
            names.add(heading.group(1) != null ? heading.group(1)
                    : heading.group(2) != null ? "Terms " + heading.group(2)
                    : heading.group(3) != null ? heading.group(3) : heading.group(4));
        }
        for (int i = 0; i < names.size(); i++) {
            int end = i + 1 < names.size() ? places.get(i + 1)[0] : document.length();
            String text = plain(document.substring(places.get(i)[1], end));
            sections.put(names.get(i), text.replaceFirst("^`\\w[^`]*\\)`: ", ""));
        }
        return sections;
    }

    private static String words(String source) {
        StringBuilder all = new StringBuilder();
        Matcher part = Pattern.compile(TEXT).matcher(source);
        while (part.find()) {
            all.append(part.group(1).replace("\\\"", "\""));
        }
        return plain(all.toString());
    }

    private static void mark(Path file, String where, String words, Map<String, String> sections,
            Map<String, boolean[]> quoted) {
        int at = sections.getOrDefault(where, "").indexOf(words);
        Check.due(file.getFileName() + ": in " + where + " stands " + words, at >= 0, true);
        if (at >= 0) {
            Arrays.fill(quoted.get(where), at, at + words.length(), true);
        }
    }

    /** What stands between the quotes, signs aside. */
    private static String rest(String text, boolean[] quoted) {
        StringBuilder all = new StringBuilder();
        for (int i = 0; i < text.length(); i++) {
            all.append(quoted[i] ? '|' : text.charAt(i));
        }
        String rest = all.toString().replaceAll("\\|+", " | ").trim();
        return rest.matches("(?s).*[a-zA-Z0-9].*") ? rest : "";
    }
}
