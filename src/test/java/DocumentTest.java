import java.io.IOException;
import java.nio.file.DirectoryStream;
import java.nio.file.Files;
import java.nio.file.Path;
import java.util.ArrayList;
import java.util.List;
import java.util.regex.Matcher;
import java.util.regex.Pattern;

/** Each sentence of the document's terms and promises is named, by Due.sentence(), in a test that is about it. */
public final class DocumentTest {
    private static final Path TESTS = Path.of("src/test/java");
    private static final Pattern NAMING =
        Pattern.compile("Due\\.sentence\\((\\d+),\\s*\"((?:[^\"\\\\]|\\\\.)*)\"\\)");
    // These tell what stands in the interface as comments, which no call can show.
    private static final String OF_COMMENTS = "Ahead of the calls ";

    public static void main(String[] args) throws IOException {
        List<List<String>> named = new ArrayList<>();
        for (int section = 0; section < Document.SECTIONS; section++) {
            named.add(new ArrayList<>());
        }
        try (DirectoryStream<Path> files = Files.newDirectoryStream(TESTS, "*Test.java")) {
            for (Path file : files) {
                Matcher naming = NAMING.matcher(Files.readString(file).replaceAll("\"\\s*\\+\\s*\"", ""));
                while (naming.find()) {
                    named.get(Integer.parseInt(naming.group(1))).add(naming.group(2).replaceAll("\\\\(.)", "$1"));
                }
            }
        }
        for (int section = 0; section < Document.SECTIONS; section++) {
            Due.isTrue("section " + section + " has sentences", !Document.sentencesOf(section).isEmpty());
            for (String sentence : Document.sentencesOf(section)) {
                Due.isTrue("a test names, of " + section + ", \"" + sentence + "\"",
                    sentence.startsWith(OF_COMMENTS) || named.get(section).stream().anyMatch(sentence::contains));
            }
        }
        Due.end();
    }
}
