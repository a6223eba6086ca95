import java.io.IOException;
import java.lang.reflect.Method;
import java.nio.file.Files;
import java.nio.file.Path;
import java.util.Arrays;
import java.util.regex.Matcher;
import java.util.regex.Pattern;

/** README.md names each test, and the calls that it shows answer what stands behind them. */
public final class ReadmeTest {
    private static final Pattern BLOCK = Pattern.compile("```java\n(.*?)```", Pattern.DOTALL);
    private static final Pattern CALL = Pattern.compile("track\\.(\\w+)\\((.*?)\\); +// (-?\\d+)\\b.*");
    private static final Pattern TYPED =
        Pattern.compile("for \\(char c : \"(.*)\"\\.toCharArray\\(\\)\\) track\\.appendCharacter\\(c\\);");
    private static final String MAKING = "BallastTrack track = new BallastTrack();";

    public static void main(String[] args) throws IOException, ReflectiveOperationException {
        String readme = Files.readString(Path.of("README.md"));
        Due.isTrue("README.md says how to run the tests", readme.contains("## How to run the tests\n\n```\n.ci/run\n```"));
        Due.isTrue("README.md names each test", namesEachTest(readme));
        Matcher block = BLOCK.matcher(readme);
        int blocks = 0;
        while (block.find()) {
            run(block.group(1).split("\n"));
            blocks++;
        }
        Due.isTrue("README.md shows how to use the class", blocks > 0);
        Due.end();
    }

    private static boolean namesEachTest(String readme) {
        String[] files = Path.of("src/test/java").toFile().list();
        return files != null && Arrays.stream(files).filter(name -> name.endsWith("Test.java"))
            .allMatch(name -> readme.contains("| " + name.substring(0, name.length() - 5) + " |"));
    }

    private static void run(String[] lines) throws ReflectiveOperationException {
        Due.isTrue("a new track ahead of " + String.join(" ", lines), lines[0].equals(MAKING));
        BallastTrack track = new BallastTrack();
        for (int i = 1; i < lines.length; i++) {
            Matcher typed = TYPED.matcher(lines[i]);
            Matcher call = CALL.matcher(lines[i]);
            if (typed.matches()) {
                Due.type(track, typed.group(1));
            } else {
                boolean isCall = call.matches();
                Due.isTrue("a call with its answer: " + lines[i], isCall);
                Due.isTrue(lines[i], isCall && answer(track, call.group(1), call.group(2)) == Long.parseLong(call.group(3)));
            }
        }
    }

    private static int answer(BallastTrack track, String name, String arguments) throws ReflectiveOperationException {
        Object[] values = Arrays.stream(arguments.split(", ")).filter(value -> !value.isEmpty())
            .map(Integer::valueOf).toArray();
        Class<?>[] types = new Class<?>[values.length];
        Arrays.fill(types, int.class);
        Method method = BallastTrack.class.getMethod(name, types);
        return (int) method.invoke(track, values);
    }
}
