import java.io.IOException;
import java.nio.file.Files;
import java.nio.file.Path;
import java.util.ArrayList;
import java.util.LinkedHashMap;
import java.util.List;
import java.util.Map;

/** The sentences of ../shared/DOC.md that can be tested, by section: a promise's number, or a title. */
final class Document {
    private static final String PROMISE = "Promise ";
    private static final List<String> TITLES = List.of("What it is", "Rights", "Machines", "What runs",
            "What rights give", "Exceptions");

    private Document() {
    }

    static Map<String, List<String>> sentences() {
        Map<String, List<String>> found = new LinkedHashMap<>();
        String section = "";
        boolean isCode = false;
        for (String line : lines()) {
            isCode ^= line.startsWith("```");
            if (line.startsWith("#")) {
                section = sectionOf(line.replaceFirst("^#+ ", ""));
            } else if (!isCode && !section.isEmpty()) {
                found.computeIfAbsent(section, s -> new ArrayList<>()).addAll(sentencesOf(line));
            }
        }
        return found;
    }

    private static List<String> lines() {
        try {
            return Files.readAllLines(Path.of("../shared/DOC.md"));
        } catch (IOException e) {
            throw new IllegalStateException("there is no ../shared/DOC.md", e);
        }
    }

    private static String sectionOf(String title) {
        if (title.startsWith(PROMISE)) {
            return title.substring(PROMISE.length(), title.indexOf(':'));
        }
        return TITLES.contains(title) ? title : "";
    }

    private static List<String> sentencesOf(String line) {
        // The order in which the interface lists its calls can't be seen in what they answer.
        if (line.isBlank() || line.startsWith("Ahead of the calls ")) {
            return List.of();
        }
        String text = line.replaceFirst("^- ", "").replaceFirst("^`[^`]*\\)[^`]*`: ", "");
        return List.of(text.split("(?<=\\.|\\.\\)) (?=[A-Z(])"));
    }
}
