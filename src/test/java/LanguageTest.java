import java.io.IOException;
import java.lang.reflect.Field;
import java.lang.reflect.Member;
import java.lang.reflect.Method;
import java.lang.reflect.Modifier;
import java.nio.charset.StandardCharsets;
import java.nio.file.Files;
import java.nio.file.Path;
import java.util.Arrays;
import java.util.List;
import java.util.Set;
import java.util.TreeSet;

/** The public face, the constants, and the rules of LANGUAGE.md that can be told from the source. */
public final class LanguageTest {
    private static final Path SOURCE = Path.of("src/main/java/BallastTrack.java");

    private static final List<String> FACE = List.of(
        "begin 1", "setNumber 2", "setLevel 2", "appendCharacter 1", "clearText 0", "load 0", "renew 2", "addJob 3",
        "cancelJobs 1", "work 1", "trains 3", "keep 1", "back 1", "undo 0", "count 1", "sleeper 2", "job 2",
        "account 1", "rail 2", "why 1", "lifts 2", "trainsUntil 3", "bestRow 3", "minutesLeft 0");

    private static final List<String> FORBIDDEN = List.of(
        "throw", "try", "catch", "synchronized", "assert", "package", "instanceof", "hashCode", "toString", "Exception",
        "Random", "System.out", "System.in", "currentTimeMillis", "nanoTime", "Thread", "Object", "String", "Exact",
        "->", "::", "@");

    public static void main(String[] args) throws IOException {
        constants();
        face();
        classesInside();
        source();
        Due.end();
    }

    private static void constants() {
        Due.is(BallastTrack.INVALID_ARGUMENT, -100001);
        Due.is(BallastTrack.ILLEGAL_STATE, -100002);
        Due.is(BallastTrack.CAPACITY_EXCEEDED, -100003);
        Due.is(BallastTrack.NONE, -100009);
    }

    private static boolean isPrivate(Member member) {
        return Modifier.isPrivate(member.getModifiers()) || member.isSynthetic();
    }

    private static void face() {
        Due.isTrue("the class is public and final", BallastTrack.class.getModifiers() == (Modifier.PUBLIC | Modifier.FINAL));
        Due.is(BallastTrack.class.getDeclaredConstructors().length, 1);
        Set<String> methods = new TreeSet<>();
        Set<String> hidden = new TreeSet<>();
        for (Method method : BallastTrack.class.getDeclaredMethods()) {
            if (isPrivate(method)) {
                hidden.add(method.getName());
                continue;
            }
            Due.isTrue(method + " is public", method.getModifiers() == Modifier.PUBLIC);
            Due.isTrue(method + " answers an int", method.getReturnType() == int.class);
            Due.isTrue(method + " takes ints",
                Arrays.stream(method.getParameterTypes()).allMatch(type -> type == int.class));
            methods.add(method.getName() + " " + method.getParameterCount());
        }
        Due.isTrue("the methods are the document's", methods.equals(new TreeSet<>(FACE)));
        Set<String> fields = new TreeSet<>();
        for (Field field : BallastTrack.class.getDeclaredFields()) {
            if (!isPrivate(field)) {
                fields.add(field.getName());
            }
            Due.isTrue(field + " is final if it is static", !Modifier.isStatic(field.getModifiers())
                || Modifier.isFinal(field.getModifiers()));
        }
        Due.isTrue("the constants are the document's",
            fields.equals(Set.of("INVALID_ARGUMENT", "ILLEGAL_STATE", "CAPACITY_EXCEEDED", "NONE")));
        for (String name : FACE) {
            Due.isTrue("no private " + name, !hidden.contains(name.substring(0, name.indexOf(' '))));
        }
    }

    private static void classesInside() {
        for (Class<?> inside : BallastTrack.class.getDeclaredClasses()) {
            Due.isTrue(inside + " is static", Modifier.isStatic(inside.getModifiers()));
            Due.isTrue(inside + " is private", Modifier.isPrivate(inside.getModifiers()));
            for (Method method : inside.getDeclaredMethods()) {
                Due.isTrue(method + " has a name of its own",
                    FACE.stream().noneMatch(name -> name.startsWith(method.getName() + " ")));
                Due.isTrue(method + " takes at most seven", method.getParameterCount() <= 7);
            }
        }
        Due.isTrue("at most twelve classes", BallastTrack.class.getDeclaredClasses().length < 12);
    }

    private static void source() throws IOException {
        String text = Files.readString(SOURCE, StandardCharsets.US_ASCII);
        String code = text.replaceAll("(?s)/\\*.*?\\*/", "").replaceAll("//[^\n]*", "");
        for (String word : FORBIDDEN) {
            boolean isWord = Character.isLetter(word.charAt(0));
            String sought = isWord ? "(?s).*\\b" + word.replace(".", "\\.") + "\\b.*" : "(?s).*" + word + ".*";
            Due.isTrue("no " + word, !code.matches(sought));
        }
        for (String line : code.split("\n")) {
            Due.isTrue(line, !line.startsWith("import") || line.equals("import java.util.Arrays;"));
        }
        methodsStayShort(code.split("\n"));
        Due.isTrue("nothing is made outside of constructors",
            code.lines().filter(line -> line.contains("new ")).allMatch(
                line -> line.contains(" final ") || line.matches("\\s+(images\\[image\\]|rows\\[row\\]) = new State\\(\\);")));
    }

    private static void methodsStayShort(String[] lines) {
        int methods = 0;
        for (int start = 0; start < lines.length; start++) {
            if (!lines[start].matches("( {4}| {8})(?!if |for |while |switch )\\w.*\\) \\{")) {
                continue;
            }
            String close = lines[start].replaceAll("\\S.*", "") + "}";
            int end = start;
            while (end < lines.length && !lines[end].equals(close)) {
                end++;
            }
            methods++;
            Due.isTrue(lines[start] + " is short", end - start < 60);
        }
        Due.isTrue("the methods are found", methods > FACE.size());
    }
}
