import java.io.IOException;
import java.lang.reflect.Field;
import java.lang.reflect.Member;
import java.lang.reflect.Method;
import java.lang.reflect.Modifier;
import java.nio.charset.StandardCharsets;
import java.nio.file.Files;
import java.nio.file.Path;
import java.util.ArrayDeque;
import java.util.Arrays;
import java.util.Deque;
import java.util.List;
import java.util.Set;
import java.util.TreeSet;
import java.util.regex.Pattern;

/** The public face, the constants, and the rules of LANGUAGE.md that can be told from the source. */
public final class LanguageTest {
    private static final Path SOURCE = Path.of("src/main/java/BallastTrack.java");

    private static final List<String> FACE = List.of(
        "begin 1", "setNumber 2", "setLevel 2", "appendCharacter 1", "clearText 0", "load 0", "renew 2", "addJob 3",
        "cancelJobs 1", "work 1", "trains 3", "keep 1", "back 1", "undo 0", "count 1", "sleeper 2", "job 2",
        "account 1", "rail 2", "why 1", "lifts 2", "trainsUntil 3", "bestRow 3", "minutesLeft 0");

    private static final List<String> FORBIDDEN = List.of(
        "throw", "try", "catch", "synchronized", "assert", "package", "equals\\(Object", "hashCode", "\\w+Exact",
        "Random", "Scanner", "System\\.(?!arraycopy)\\w+", "Thread", "Object", "Exception", "Error",
        "java\\.(?!util)\\w+", "LinkedList", "HashMap", "TreeMap", "Optional");

    private static final List<String> IMPORTS = List.of("import java.util.Arrays;", "import java.util.ArrayList;",
        "import java.util.Iterator;", "import java.util.List;");

    private static final Pattern CLASS_HEAD = Pattern.compile("\\b(class|enum|record|interface)\\s+\\w+");

    public static void main(String[] args) throws IOException {
        constants();
        face();
        classesInside();
        source();
        Due.end();
    }

    private static void constants() {
        Due.is(BallastTrack.INVALID_ARGUMENT, -100001);
        Due.is(BallastTrack.ILLEGAL_STATE, -100002);
        Due.is(BallastTrack.CAPACITY_EXCEEDED, -100003);
        Due.is(BallastTrack.NONE, -100009);
    }

    private static boolean isPrivate(Member member) {
        return Modifier.isPrivate(member.getModifiers()) || member.isSynthetic();
    }

    private static void face() {
        Due.isTrue("the class is public and final", BallastTrack.class.getModifiers() == (Modifier.PUBLIC | Modifier.FINAL));
        Due.is(BallastTrack.class.getDeclaredConstructors().length, 1);
        Set<String> methods = new TreeSet<>();
        Set<String> hidden = new TreeSet<>();
        for (Method method : BallastTrack.class.getDeclaredMethods()) {
            if (isPrivate(method)) {
                hidden.add(method.getName());
                continue;
            }
            Due.isTrue(method + " is public", method.getModifiers() == Modifier.PUBLIC);
            Due.isTrue(method + " answers an int", method.getReturnType() == int.class);
            Due.isTrue(method + " takes ints",
                Arrays.stream(method.getParameterTypes()).allMatch(type -> type == int.class));
            methods.add(method.getName() + " " + method.getParameterCount());
        }
        Due.isTrue("the methods are the document's", methods.equals(new TreeSet<>(FACE)));
        Set<String> fields = new TreeSet<>();
        for (Field field : BallastTrack.class.getDeclaredFields()) {
            if (!isPrivate(field)) {
                fields.add(field.getName());
            }
            Due.isTrue(field + " is final if it is static", !Modifier.isStatic(field.getModifiers())
                || Modifier.isFinal(field.getModifiers()));
        }
        Due.isTrue("the constants are the document's",
            fields.equals(Set.of("INVALID_ARGUMENT", "ILLEGAL_STATE", "CAPACITY_EXCEEDED", "NONE")));
        for (String name : FACE) {
            Due.isTrue("no private " + name, !hidden.contains(name.substring(0, name.indexOf(' '))));
        }
    }

    private static void classesInside() {
        for (Class<?> inside : BallastTrack.class.getDeclaredClasses()) {
            Due.isTrue(inside + " is static", Modifier.isStatic(inside.getModifiers()));
            Due.isTrue(inside + " is private or package-visible",
                !Modifier.isPublic(inside.getModifiers()) && !Modifier.isProtected(inside.getModifiers()));
            for (Method method : inside.getDeclaredMethods()) {
                Due.isTrue(method + " has a name of its own", !Modifier.isPrivate(method.getModifiers())
                    || FACE.stream().noneMatch(name -> name.startsWith(method.getName() + " ")));
                Due.isTrue(method + " takes at most seven", method.getParameterCount() <= 7);
            }
        }
        Due.isTrue("at most twelve classes", BallastTrack.class.getDeclaredClasses().length < 12);
    }

    /** The source without comments, texts and signs. */
    private static String code() throws IOException {
        String text = Files.readString(SOURCE, StandardCharsets.US_ASCII);
        return text.replaceAll("\"(?:[^\"\\\\]|\\\\.)*\"|'(?:[^'\\\\]|\\\\.)*'|(?s:/\\*.*?\\*/)|//[^\n]*", " 0 ");
    }

    private static void source() throws IOException {
        String code = code();
        for (String word : FORBIDDEN) {
            Due.isTrue("no " + word, !Pattern.compile("\\b" + word + "\\b").matcher(code).find());
        }
        Due.isTrue("no method reference", !code.contains("::"));
        Due.isTrue("no lambda", !Pattern.compile("(?<!case\\s[^;{}]{0,80}|default\\s?)->").matcher(code).find());
        for (String line : code.split("\n")) {
            Due.isTrue(line, !line.startsWith("import") || IMPORTS.contains(line.strip()));
        }
        methodsStayShort(code);
    }

    /** A block is a method's if its head ends with a parenthesis and the block around it is a class's. */
    private static void methodsStayShort(String code) {
        Deque<String> heads = new ArrayDeque<>();
        Deque<Integer> starts = new ArrayDeque<>();
        int line = 1;
        int head = 0;
        for (int i = 0; i < code.length(); i++) {
            char sign = code.charAt(i);
            if (sign == '\n') {
                line++;
            } else if (sign == '{') {
                heads.push(code.substring(head, i).strip());
                starts.push(line);
            } else if (sign == '}') {
                String closed = heads.pop();
                int length = line - starts.pop();
                boolean isMethod = closed.endsWith(")") && !heads.isEmpty() && CLASS_HEAD.matcher(heads.peek()).find();
                Due.isTrue(closed + " is short", !isMethod || length <= 65);
            }
            if (sign == '{' || sign == '}' || sign == ';') {
                head = i + 1;
            }
        }
    }
}
