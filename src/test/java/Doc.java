import java.io.IOException;
import java.io.UncheckedIOException;
import java.nio.file.Files;
import java.nio.file.Path;
import java.util.ArrayList;
import java.util.LinkedHashMap;
import java.util.List;
import java.util.Map;
import java.util.regex.Matcher;
import java.util.regex.Pattern;

/** The document, by sections: those with names by these ("Terms"), the promises by their numbers ("1", "2", ..). */
final class Doc {
    private static final Path PATH = Path.of("../shared/DOC.md");
    private static final Map<String, List<String>> SECTIONS = read();

    private Doc() {
    }

    private static Map<String, List<String>> read() {
        Map<String, List<String>> sections = new LinkedHashMap<>();
        String name = "";
        for (String line : lines()) {
            if (line.startsWith("## ")) {
                name = nameOf(line.substring(3));
            } else if (!line.startsWith("#")) {
                sections.computeIfAbsent(name, key -> new ArrayList<>()).add(line.trim());
            }
        }
        return sections;
    }

    private static List<String> lines() {
        try {
            return Files.readAllLines(PATH);
        } catch (IOException e) {
            throw new UncheckedIOException(e);
        }
    }

    private static String nameOf(String heading) {
        return heading.startsWith("Promise ") ? heading.substring(8, heading.indexOf(':')) : heading;
    }

    static boolean has(String section, String text) {
        return SECTIONS.containsKey(section) && String.join(" ", SECTIONS.get(section)).contains(text);
    }

    /** What stands in the class of the document's face, line by line. */
    static List<String> face() {
        List<String> all = new ArrayList<>();
        boolean isFace = false;
        for (String line : SECTIONS.get("The public face")) {
            isFace = isFace ? !line.equals("}") : line.startsWith("public final class ");
            if (isFace) {
                all.add(line);
            }
        }
        return all;
    }

    /** The headings that the interface has ahead of calls, each by the first of these. */
    static Map<String, String> headings() {
        Map<String, String> all = new LinkedHashMap<>();
        for (String line : SECTIONS.get("Terms")) {
            Matcher told = Pattern.compile("Ahead of the calls `(\\w+)`.* the interface says: ---- (.*)\\.").matcher(line);
            if (told.matches()) {
                all.put(told.group(1), told.group(2));
            }
        }
        return all;
    }

    /** A list's rows are sentences of their own, as are lines that say "Returns" and "Throws". */
    static List<String> sentences(String section) {
        List<String> all = new ArrayList<>();
        for (String line : SECTIONS.getOrDefault(section, List.of())) {
            for (String sentence : line.split("(?<=\\.)\\s+")) {
                if (line.startsWith("- ") || line.startsWith("Throws ") || sentence.endsWith(".")) {
                    all.add(sentence);
                }
            }
        }
        return all;
    }
}
