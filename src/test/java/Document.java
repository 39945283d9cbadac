import java.io.IOException;
import java.nio.file.Files;
import java.nio.file.Path;
import java.util.ArrayList;
import java.util.Arrays;
import java.util.LinkedHashMap;
import java.util.List;
import java.util.Map;

/** The sections of ../shared/DOC.md, from the terms to the last promise, and which of their words a test has quoted. */
final class Document {
    private static final Path PLACE = Path.of("../shared/DOC.md");

    private static final class Section {
        String words = "";
        boolean[] quoted = new boolean[0];
    }

    private final Map<String, Section> sections = new LinkedHashMap<>();
    private final boolean isThere = Files.exists(PLACE);

    Document() throws IOException {
        String title = "";
        for (String line : isThere ? Files.readAllLines(PLACE) : List.<String>of()) {
            if (line.startsWith("#")) title = line.replaceFirst("^#+ ", "").replaceFirst(":.*", "");
            else if (!line.startsWith("```")) add(title, line);
        }
        for (Section section : sections.values()) {
            section.words = plain(section.words);
            section.quoted = new boolean[section.words.length()];
        }
    }

    private void add(String title, String line) {
        sections.computeIfAbsent(title, t -> new Section()).words += " " + line;
    }

    private static String plain(String words) {
        return words.replace("`", "").replaceAll("\\s+", " ").trim();
    }

    /** Marks the words as quoted; false if they do not stand in that section of the document, if that is there. */
    boolean quote(String title, String words) {
        if (!isThere) return true;
        Section section = sections.get(title);
        String sought = plain(words);
        if (section == null || !section.words.contains(sought)) return false;
        int at = section.words.indexOf(sought);
        while (section.quoted[at] && section.words.indexOf(sought, at + 1) >= 0) at = section.words.indexOf(sought, at + 1);
        Arrays.fill(section.quoted, at, at + sought.length(), true);
        return true;
    }

    /** The words that no test has quoted, without the sections that promise nothing by themselves. */
    List<String> neverQuoted() {
        List<String> found = new ArrayList<>();
        for (Map.Entry<String, Section> entry : sections.entrySet()) {
            if (List.of("PoisonPiles", "What it is", "The public face", "Not promised").contains(entry.getKey())) continue;
            StringBuilder left = new StringBuilder();
            for (int i = 0; i < entry.getValue().words.length(); i++) {
                left.append(entry.getValue().quoted[i] ? "\n" : entry.getValue().words.charAt(i));
            }
            for (String part : left.toString().split("\n+")) {
                if (part.matches(".*\\w.*")) found.add(entry.getKey() + ": " + part.trim());
            }
        }
        return found;
    }
}
