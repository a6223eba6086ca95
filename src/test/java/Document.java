import java.io.IOException;
import java.io.UncheckedIOException;
import java.nio.file.Files;
import java.nio.file.Path;
import java.util.ArrayList;
import java.util.List;

/** The sentences of ../shared/DOC.md: section 0 is the Terms, sections 1 to 25 are the promises. */
final class Document {
    static final int SECTIONS = 26;

    private static final Path FILE = Path.of("../shared/DOC.md");
    private static final List<List<String>> SENTENCES = read();

    private Document() {
    }

    static List<String> sentencesOf(int section) {
        return SENTENCES.get(section);
    }

    static boolean says(int section, String words) {
        return sentencesOf(section).stream().anyMatch(sentence -> sentence.contains(words));
    }

    private static List<List<String>> read() {
        List<List<String>> sections = new ArrayList<>();
        for (int section = 0; section < SECTIONS; section++) {
            sections.add(new ArrayList<>());
        }
        int section = -1;
        for (String line : lines()) {
            if (line.startsWith("## ")) {
                section = sectionOf(line);
            } else if (section >= 0 && !line.startsWith("#") && !line.isBlank()) {
                addSentences(sections.get(section), line);
            }
        }
        return sections;
    }

    private static List<String> lines() {
        try {
            return Files.readAllLines(FILE);
        } catch (IOException e) {
            throw new UncheckedIOException(e);
        }
    }

    private static int sectionOf(String heading) {
        if (heading.equals("## Terms")) {
            return 0;
        }
        String number = heading.replaceAll("^## Promise (\\d+):.*$", "$1");
        return number.equals(heading) ? -1 : Integer.parseInt(number);
    }

    private static void addSentences(List<String> section, String line) {
        if (line.startsWith("- ")) {
            section.add(line.substring(2));
            return;
        }
        String withoutNumber = line.replaceAll("^\\d+\\. ", "");
        section.addAll(List.of(withoutNumber.split("(?<=[.;]) ")));
    }
}
