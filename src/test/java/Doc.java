import java.io.IOException;
import java.io.UncheckedIOException;
import java.nio.charset.StandardCharsets;
import java.nio.file.Files;
import java.nio.file.Path;
import java.util.ArrayList;
import java.util.LinkedHashMap;
import java.util.List;
import java.util.Map;

/**
 * The document by sections: "Terms", "II", "III", "IV" and the promises "1" to "45"; which words of it were quoted.
 * Where no document is beside the project, all quotes are taken as they are.
 */
final class Doc {
    private static final Path PLACE = Path.of("../shared/DOC.md");
    private final boolean isThere = Files.isReadable(PLACE);
    private final Map<String, String> sections = new LinkedHashMap<>();
    private final Map<String, boolean[]> quoted = new LinkedHashMap<>();

    Doc() {
        if (!isThere) {
            System.out.println("no " + PLACE + ": quotes are not compared with it");
            return;
        }
        String all = "\n" + text(PLACE).replaceAll("(?m)^```.*$", "");
        put("Terms", between(all, "\n## Terms", "\n==== II."));
        put("II", between(all, "\n==== II.", "\n==== III."));
        put("III", between(all, "\n==== III.", "\n==== IV."));
        put("IV", between(all, "\n==== IV.", "\n## Promise 1:"));
        for (int i = 1; i <= 45; i++) {
            put("" + i, between(all, "\n## Promise " + i + ":", "\n## ").replaceFirst("(?s)^.*?`.*?`:", ""));
        }
    }

    private static String text(Path path) {
        try {
            return Files.readString(path, StandardCharsets.UTF_8);
        } catch (IOException e) {
            throw new UncheckedIOException(e);
        }
    }

    private static String between(String all, String from, String to) {
        int start = all.indexOf(from);
        int end = start < 0 ? -1 : all.indexOf(to, start + from.length());
        if (end < 0) {
            throw new IllegalStateException("the document has nothing between " + from + " and " + to);
        }
        return all.substring(start + from.length(), end);
    }

    private void put(String section, String words) {
        String said = plain(words);
        sections.put(section, said);
        quoted.put(section, new boolean[said.length()]);
    }

    private static String plain(String words) {
        return words.replaceAll("\\s+", " ").trim();
    }

    /** Whether the section says so. */
    boolean quote(String section, String words) {
        if (!isThere) {
            return true;
        }
        String said = sections.getOrDefault(section, "");
        String sought = plain(words);
        int at = said.indexOf(sought);
        if (sought.isEmpty() || at < 0) {
            return false;
        }
        for (int i = at; i < at + sought.length(); i++) {
            quoted.get(section)[i] = true;
        }
        return true;
    }

    /** What no test quoted, section by section. */
    List<String> unquoted() {
        List<String> left = new ArrayList<>();
        sections.forEach((section, said) -> {
            StringBuilder words = new StringBuilder();
            for (int i = 0; i < said.length(); i++) {
                words.append(quoted.get(section)[i] ? '\n' : said.charAt(i));
            }
            for (String part : words.toString().split("\n+")) {
                if (part.matches("(?s).*[A-Za-z0-9].*")) {
                    left.add("[" + section + "] " + part.trim());
                }
            }
        });
        return left;
    }
}
