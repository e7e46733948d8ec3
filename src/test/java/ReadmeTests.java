import java.io.IOException;
import java.lang.reflect.Method;
import java.lang.reflect.Modifier;
import java.nio.file.Files;
import java.nio.file.Path;
import java.util.HashMap;
import java.util.Map;
import java.util.Set;
import java.util.TreeSet;
import java.util.regex.Matcher;
import java.util.regex.Pattern;

/** Plays the examples of README.md: each line of a Java block must answer the number that stands behind it. */
public final class ReadmeTests {
    private static final Path README = Path.of("README.md");
    private static final String BEGIN = "```java";
    private static final String END = "```";
    private static final String NEW_POST = "FieldPost post = new FieldPost();";
    private static final Pattern LINE =
        Pattern.compile("(?:int (\\w+) = )?post\\.(\\w+)\\((.*)\\); +// (-?\\d+)(?:: .*)?");
    private static final Pattern NAMED = Pattern.compile("`(\\w+)(?:\\(\\d+\\))?`");
    private static final Map<String, Method> FACE = new HashMap<>();
    private static int wrong = 0;

    public static void main(String[] args) throws Exception {
        for (Method m : FieldPost.class.getDeclaredMethods()) {
            if (Modifier.isPublic(m.getModifiers())) {
                FACE.put(m.getName(), m);
            }
        }
        System.out.println(playExamples() + " lines of README.md played");
        everyCallIsNamed();
        System.out.println(wrong == 0 ? "all answers are as due" : wrong + " things are not as due");
        if (wrong != 0) {
            System.exit(1);
        }
    }

    private static void tell(String what) {
        wrong++;
        System.out.println(what);
    }

    private static int playExamples() throws Exception {
        int played = 0;
        boolean inside = false;
        FieldPost post = null;
        Map<String, Integer> named = new HashMap<>();
        for (String line : Files.readAllLines(README)) {
            if (line.equals(BEGIN) || line.equals(END)) {
                inside = line.equals(BEGIN);
                post = null;
                named.clear();
            } else if (inside && line.equals(NEW_POST)) {
                post = new FieldPost();
            } else if (inside) {
                play(post, line, named);
                played++;
            }
        }
        if (played == 0) {
            tell("README.md has no example");
        }
        return played;
    }

    private static void play(FieldPost post, String line, Map<String, Integer> named) throws Exception {
        Matcher m = LINE.matcher(line);
        if (post == null || !m.matches() || !FACE.containsKey(m.group(2))) {
            tell("not a line that can be played: " + line);
            return;
        }
        Method method = FACE.get(m.group(2));
        String[] written = m.group(3).split(", ");
        Class<?>[] types = method.getParameterTypes();
        if (written.length != types.length) {
            tell("not as many arguments as are due: " + line);
            return;
        }
        Object[] with = new Object[types.length];
        for (int i = 0; i < types.length; i++) {
            with[i] = argument(written[i], types[i], named);
        }
        int got = (Integer) method.invoke(post, with);
        if (m.group(1) != null) {
            named.put(m.group(1), got);
        }
        if (got != Integer.parseInt(m.group(4))) {
            tell("answered " + got + ": " + line);
        }
    }

    private static Object argument(String written, Class<?> type, Map<String, Integer> named) {
        if (type == boolean.class) {
            return written.equals("true");
        }
        if (type == long.class) {
            return Long.decode(written.replace("L", ""));
        }
        Integer kept = named.get(written);
        return kept != null ? kept : Integer.valueOf(written);
    }

    /** The table of the calls must have the whole face, or a reader would miss one. */
    private static void everyCallIsNamed() throws IOException {
        Set<String> missing = new TreeSet<>(FACE.keySet());
        for (String line : Files.readAllLines(README)) {
            if (line.startsWith("| ")) {
                Matcher m = NAMED.matcher(line);
                while (m.find()) {
                    missing.remove(m.group(1));
                    if (!FACE.containsKey(m.group(1))) {
                        tell("README.md names a call that there is not: " + m.group(1));
                    }
                }
            }
        }
        if (!missing.isEmpty()) {
            tell("README.md does not name: " + missing);
        }
    }
}
