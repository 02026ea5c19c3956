import java.io.IOException;
import java.nio.file.Files;
import java.nio.file.Path;
import java.util.ArrayList;
import java.util.Arrays;
import java.util.List;
import java.util.Map;
import java.util.TreeMap;
import java.util.regex.Matcher;
import java.util.regex.Pattern;
import java.util.stream.Stream;

/** Holds the sentences that the tests name against the document: each stands there, and none of the document's is left. */
public final class SentencesTest {
    private static final Checks is = new Checks();
    private static final Pattern QUOTE = Pattern.compile("\\.sentence\\(\\s*\"([^\"]*)\",\\s*\"([^\"]*)\"\\)");

    public static void main(String[] args) throws IOException {
        Map<String, String> sections = sections(Files.readString(Path.of("../shared/DOC.md")));
        is.due("sections: what it is, 4 of terms, 25 promises", sections.size(), 30);
        Map<String, boolean[]> seen = new TreeMap<>();
        sections.forEach((name, words) -> seen.put(name, new boolean[words.length()]));
        for (String[] quote : quotes()) {
            String words = sections.getOrDefault(quote[0], "");
            List<Integer> places = places(words, quote[1]);
            is.due("times that " + quote[0] + " says «" + quote[1] + "»", places.size(), 1);
            for (int place : places) {
                Arrays.fill(seen.get(quote[0]), place, place + quote[1].length(), true);
            }
        }
        sections.forEach((name, words) -> {
            if (!name.equals("What it is")) {
                String left = left(words, seen.get(name));
                is.due("nothing is left of " + name + ": " + left, !left.matches("(?s).*[A-Za-z0-9].*"));
            }
        });
        is.close();
    }

    private static Map<String, String> sections(String document) {
        Map<String, String> found = new TreeMap<>();
        found.put("What it is", plain(between(document, "## What it is", "## The public face")));
        String terms = between(document, "## Terms", "Ahead of the calls");
        for (int k = 1; k <= 4; k++) {
            String end = k < 4 ? "======== " + (k + 1) : "Ahead of the calls";
            found.put("Terms " + k, plain(between(terms + "Ahead of the calls", "======== " + k, end)));
        }
        Matcher promise = Pattern.compile("(?m)^## (Promise \\d+):.*$").matcher(document);
        while (promise.find()) {
            String words = document.substring(promise.end(), document.indexOf("\n## ", promise.end()));
            found.put(promise.group(1), plain(words.replaceFirst("`[^`]*`:", "")));
        }
        return found;
    }

    private static String between(String text, String from, String to) {
        int begin = text.indexOf(from) + from.length();
        return text.substring(begin, text.indexOf(to, begin));
    }

    private static String plain(String text) {
        return text.replace("```text", " ").replace("```", " ").replaceAll("\\s+", " ").trim();
    }

    private static List<String[]> quotes() throws IOException {
        List<String[]> found = new ArrayList<>();
        try (Stream<Path> files = Files.list(Path.of("src/test/java"))) {
            for (Path file : files.filter(f -> f.toString().endsWith("Test.java")).sorted().toList()) {
                Matcher quote = QUOTE.matcher(Files.readString(file).replaceAll("\"\\s*\\+\\s*\"", ""));
                while (quote.find()) {
                    found.add(new String[] {quote.group(1), quote.group(2)});
                }
            }
        }
        return found;
    }

    /** Where the words stand as whole words: NO is not found in NONE. */
    private static List<Integer> places(String text, String words) {
        List<Integer> found = new ArrayList<>();
        Matcher m = Pattern.compile("(?<![A-Za-z0-9])" + Pattern.quote(words) + "(?![A-Za-z0-9])").matcher(text);
        while (m.find()) {
            found.add(m.start());
        }
        return found;
    }

    private static String left(String words, boolean[] seen) {
        StringBuilder left = new StringBuilder();
        for (int k = 0; k < words.length(); k++) {
            left.append(seen[k] ? '_' : words.charAt(k));
        }
        return left.toString().replaceAll("_+", " _ ").trim();
    }
}
