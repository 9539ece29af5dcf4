import java.io.IOException;
import java.nio.file.Files;
import java.nio.file.Path;
import java.util.ArrayList;
import java.util.Arrays;
import java.util.LinkedHashMap;
import java.util.List;
import java.util.Map;
import java.util.regex.Matcher;
import java.util.regex.Pattern;

/**
 * The document by its parts: 'Terms 1' to 'Terms 4', 'Promise 1' to 'Promise 31'. Tests quote it word by word, and
 * what no test has quoted is told at the end, so that no sentence stays without a test of its own.
 */
final class Doc {
    private static final Path PLACE = Path.of("..", "shared", "DOC.md");
    private static final Map<String, Part> PARTS = new LinkedHashMap<>();

    private Doc() {
    }

    private static final class Part {
        final String text;
        final boolean[] quoted;

        Part(String text) {
            this.text = oneLine(text);
            quoted = new boolean[this.text.length()];
        }

        boolean quote(String words) {
            int from = text.indexOf(words);
            if (from < 0) {
                return false;
            }
            Arrays.fill(quoted, from, from + words.length(), true);
            return true;
        }

        String unquoted() {
            StringBuilder left = new StringBuilder();
            for (int i = 0; i < quoted.length; i++) {
                left.append(quoted[i] ? ' ' : text.charAt(i));
            }
            return oneLine(left.toString());
        }
    }

    private static String oneLine(String text) {
        return text.replaceAll("\\s+", " ").trim();
    }

    private static String whole() {
        try {
            return Files.readString(PLACE);
        } catch (IOException e) {
            throw new IllegalStateException("the document is not at " + PLACE, e);
        }
    }

    private static Map<String, Part> parts() {
        if (PARTS.isEmpty()) {
            String text = whole();
            String terms = between(text, "\n## Terms\n", "\n## Promise 1:").replace("```text", "").replace("```", "");
            // The mark of part 1 stands ahead of the heading, those of the others within.
            String[] four = terms.split("==== \\d\\.");
            for (int i = 0; i < four.length; i++) {
                PARTS.put("Terms " + (i + 1), new Part(four[i]));
            }
            Matcher promise = Pattern.compile("## (Promise \\d+): [^\n]*\n\\s*`[^`]*`:([^\n]*)").matcher(text);
            while (promise.find()) {
                PARTS.put(promise.group(1), new Part(promise.group(2)));
            }
        }
        return PARTS;
    }

    private static String between(String text, String first, String last) {
        int from = text.indexOf(first);
        int to = text.indexOf(last);
        return from < 0 || to < from ? "" : text.substring(from + first.length(), to);
    }

    /** Whether these words stand in that part; they are quoted then. */
    static boolean quote(String part, String words) {
        Part found = parts().get(part);
        return found != null && found.quote(words);
    }

    /** What no test has quoted, a line for each part that has such. */
    static List<String> unquoted() {
        List<String> left = new ArrayList<>();
        parts().forEach((name, part) -> {
            if (!part.unquoted().isEmpty()) {
                left.add(name + ": " + part.unquoted());
            }
        });
        return left;
    }

    static int partCount() {
        return parts().size();
    }

    /** The lines of the public face, without the class's own. */
    static List<String> face() {
        List<String> lines = new ArrayList<>();
        for (String line : between(whole(), "public final class ButterLeaves {", "\n## Terms\n").split("\n")) {
            if (line.trim().startsWith("public ")) {
                lines.add(oneLine(line).replace(";", ""));
            }
        }
        return lines;
    }
}
