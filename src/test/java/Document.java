import java.io.IOException;
import java.nio.file.Files;
import java.nio.file.Path;
import java.util.HashMap;
import java.util.Map;

/** The document by sections ("Terms", "1" to "49", ..), and which of its words a run was told for. */
final class Document {
    private final Map<String, String> sections = new HashMap<>();
    private final Map<String, boolean[]> told = new HashMap<>();

    Document(Path file) throws IOException {
        for (String section : Files.readString(file).split("(?m)^## ")) {
            int end = section.indexOf('\n');
            String name = section.substring(0, Math.max(0, end)).replaceAll("^Promise (\\d+):.*", "$1");
            String words = wordsOf(section.substring(end + 1));
            sections.put(name, words);
            told.put(name, new boolean[words.length()]);
        }
    }

    /** What is no sentence goes: code, fences, numbers of parts, where the interface's headings stand. */
    private static String wordsOf(String section) {
        return section.replaceAll("(?m)^Ahead of the calls.*$", "").replaceAll("(?m)^```.*$", "")
            .replaceAll("(?m)^======== \\d", "").replaceAll("`[^`]*`:", "").replaceAll("\\s+", " ");
    }

    boolean tellsOf(String section, String words) {
        String all = sections.getOrDefault(section, "");
        boolean found = false;
        for (int at = all.indexOf(words); at >= 0 && !words.isEmpty(); at = all.indexOf(words, at + 1)) {
            found = true;
            for (int i = at; i < at + words.length(); i++) {
                told.get(section)[i] = true;
            }
        }
        return found;
    }

    String untoldOf(String section) {
        String all = sections.getOrDefault(section, "");
        if (all.isBlank()) {
            return "the section itself";
        }
        StringBuilder untold = new StringBuilder();
        for (int i = 0; i < all.length(); i++) {
            boolean isWord = Character.isLetterOrDigit(all.charAt(i));
            if (!told.get(section)[i] && (isWord || !untold.isEmpty())) {
                untold.append(all.charAt(i));
            }
        }
        return untold.toString().replaceAll("[^A-Za-z0-9]+$", "");
    }
}
