import java.io.IOException;
import java.lang.reflect.InvocationTargetException;
import java.lang.reflect.Method;
import java.lang.reflect.Modifier;
import java.nio.file.Files;
import java.nio.file.Path;
import java.util.ArrayList;
import java.util.HashMap;
import java.util.List;
import java.util.Map;
import java.util.Set;
import java.util.TreeSet;
import java.util.regex.Matcher;
import java.util.regex.Pattern;
import java.util.stream.Stream;

/**
 * Plays src/test/sentences: for each sentence of the document that names a boundary case a test of its own.
 * README.md tells how such a file is written. With arguments it plays the files whose names begin so, and
 * names each test.
 *
 * Whatever a test is about, a call in it that is refused must be counted under its number and change nothing
 * else: a twin that was never asked for it has to answer everything as the first does.
 */
public final class SentenceRuns {
    private static final Path SENTENCES = Path.of("src/test/sentences");
    private static final Path DOCUMENT = Path.of("../shared/DOC.md");
    private static final int PROMISES = 35;
    private static final int MOST_CALLS = 512;
    private static final Set<Integer> REFUSALS = Set.of(-1, -2, -3, -4, -6);
    private static final Pattern CALL = Pattern.compile("(\\w+)\\((.*)\\) (-?\\d+)(?: \\.\\. (-?\\d+)| x(\\d+))?");
    private static final Pattern TEXT = Pattern.compile("text\\((-?\\d+), (.*)\\) (-?\\d+)(?: \\.\\. (-?\\d+))?");
    private static final Map<String, Method> FACE = new HashMap<>();
    private static int wrong = 0;

    /** A call and the answer that is due, null if any will do. */
    private record Row(String call, Method method, Object[] with, Integer due) {
        int on(FieldPost x) {
            try {
                return (Integer) method.invoke(x, with);
            } catch (InvocationTargetException thrown) {
                throw new IllegalStateException(call + " threw " + thrown.getCause());
            } catch (IllegalAccessException closed) {
                throw new IllegalStateException(closed);
            }
        }

        boolean isRefused() {
            return due != null && REFUSALS.contains(due) && !method.getName().equals("count");
        }
    }

    private record Test(int promise, String sentence, String what, List<Row> rows) {
        String name() {
            return "promise " + promise + ", \"" + sentence + "\": " + what;
        }
    }

    public static void main(String[] args) throws IOException {
        for (Method m : FieldPost.class.getDeclaredMethods()) {
            if (Modifier.isPublic(m.getModifiers())) {
                FACE.put(m.getName(), m);
            }
        }
        List<Test> tests = new ArrayList<>();
        for (Path file : filesNamed(args)) {
            new Reading(file, tests).read();
        }
        for (Test test : tests) {
            if (args.length > 0) {
                System.out.println(test.name());
            }
            play(test);
        }
        if (args.length == 0) {
            namesAreOfTheDocument(tests);
            everyRefusalIsTested(tests);
        }
        System.out.println(tests.size() + " sentences played");
        System.out.println(wrong == 0 ? "all answers are as due" : wrong + " things are not as due");
        if (wrong != 0) {
            System.exit(1);
        }
    }

    private static void tell(String what) {
        wrong++;
        System.out.println(what);
    }

    private static List<Path> filesNamed(String[] beginnings) throws IOException {
        try (Stream<Path> files = Files.list(SENTENCES)) {
            return files.sorted().filter(file -> {
                String name = file.getFileName().toString();
                return beginnings.length == 0 || Stream.of(beginnings).anyMatch(name::startsWith);
            }).toList();
        }
    }

    private static void play(Test test) {
        FieldPost x = new FieldPost();
        if (test.rows().isEmpty() || test.rows().size() > MOST_CALLS) {
            tell(test.name() + ": " + test.rows().size() + " calls");
            return;
        }
        int[] refused = new int[7];
        boolean any = false;
        for (int i = 0; i < test.rows().size(); i++) {
            Row row = test.rows().get(i);
            int got = row.on(x);
            if (row.due() != null && got != row.due()) {
                tell(test.name() + ": call " + (i + 1) + ", " + row.call() + " answered " + got + ", due is " + row.due());
                return;
            }
            if (row.isRefused()) {
                refused[-row.due()]++;
                any = true;
            }
        }
        if (test.rows().size() + 6 <= MOST_CALLS) {
            refusalsAreCounted(test, x, refused);
        }
        if (any && test.rows().size() < MOST_CALLS) {
            nothingElseChanges(test);
        }
    }

    private static void refusalsAreCounted(Test test, FieldPost x, int[] refused) {
        for (int number = 1; number <= 6; number++) {
            int got = x.count(10 + number);
            if (got != refused[number]) {
                tell(test.name() + ": count(" + (10 + number) + ") answered " + got + ", due is " + refused[number]);
            }
        }
    }

    /** So many questions on new twins each time that none of them comes to more calls than are promised. */
    private static void nothingElseChanges(Test test) {
        List<Row> questions = Questions.all();
        int room = MOST_CALLS - test.rows().size();
        for (int from = 0; from < questions.size(); from += room) {
            FieldPost x = new FieldPost();
            FieldPost twin = new FieldPost();
            for (Row row : test.rows()) {
                row.on(x);
                if (!row.isRefused()) {
                    row.on(twin);
                }
            }
            for (Row question : questions.subList(from, Math.min(from + room, questions.size()))) {
                int got = question.on(x);
                int due = question.on(twin);
                if (got != due) {
                    tell(test.name() + ": " + question.call() + " behind it answered " + got + ", without the refused calls " + due);
                    return;
                }
            }
        }
    }

    /** A name is words of the document: of the promise, or of what stands ahead of the promises. */
    private static void namesAreOfTheDocument(List<Test> tests) throws IOException {
        String[] parts = documentParts();
        Set<String> names = new TreeSet<>();
        Set<Integer> promises = new TreeSet<>();
        for (Test test : tests) {
            promises.add(test.promise());
            if (!names.add(test.name())) {
                tell("told twice: " + test.name());
            }
            if (!parts[0].contains(test.sentence()) && !parts[test.promise()].contains(test.sentence())) {
                tell("not in the document: " + test.name());
            }
        }
        if (promises.size() != PROMISES) {
            tell("promises with tests: " + promises);
        }
    }

    private static void everyRefusalIsTested(List<Test> tests) throws IOException {
        Set<String> found = new TreeSet<>();
        for (Test test : tests) {
            for (Row row : test.rows()) {
                if (row.isRefused()) {
                    found.add(test.promise() + " " + row.method().getName() + " " + row.due());
                }
            }
        }
        String[] parts = documentParts();
        for (int promise = 2; promise < PROMISES; promise++) {
            Matcher name = Pattern.compile("int (\\w+)\\(").matcher(parts[promise]);
            Matcher number = Pattern.compile("-[12346](?!\\d)").matcher(parts[promise].replaceAll("-1:|-1 \\.\\.", ""));
            boolean named = name.find();
            while (named && number.find()) {
                String refusal = promise + " " + name.group(1) + " " + number.group();
                if (!found.contains(refusal)) {
                    tell("no test of a refusal: promise " + refusal);
                }
            }
        }
    }

    /** What stands ahead of the promises, then each promise. */
    private static String[] documentParts() throws IOException {
        String[] parts = Files.readString(DOCUMENT).split("## (?=Promise \\d+:|Not promised)");
        if (parts.length != PROMISES + 2) {
            throw new IllegalStateException("the document has " + (parts.length - 2) + " promises");
        }
        return parts;
    }

    /** One file of tests. */
    private static final class Reading {
        final Path file;
        final int promise;
        final List<Test> tests;
        final Map<String, String> beginnings = new HashMap<>();

        Reading(Path file, List<Test> tests) {
            this.file = file;
            this.promise = Integer.parseInt(file.getFileName().toString().substring(0, 2));
            this.tests = tests;
        }

        void read() throws IOException {
            List<Row> rows = new ArrayList<>();
            String beginning = "";
            for (String line : Files.readAllLines(file)) {
                if (line.startsWith("== ")) {
                    String[] name = line.substring(3).split(" :: ", 2);
                    rows = new ArrayList<>();
                    tests.add(new Test(promise, name[0], name[1], rows));
                } else if (line.startsWith("let ")) {
                    String[] told = line.substring(4).split(" = ", 2);
                    beginning = told[0];
                    beginnings.put(beginning, told[1]);
                } else if (line.startsWith("    ")) {
                    beginnings.merge(beginning, line, (ahead, more) -> ahead + ";" + more);
                } else if (!line.isBlank() && !line.startsWith("#")) {
                    addRows(line, rows);
                }
            }
        }

        private void addRows(String calls, List<Row> rows) {
            for (String part : calls.split(";")) {
                String call = part.trim();
                if (beginnings.containsKey(call)) {
                    addRows(beginnings.get(call), rows);
                } else if (call.startsWith("text(")) {
                    addText(call, rows);
                } else {
                    addCalls(call, rows);
                }
            }
        }

        private void addText(String call, List<Row> rows) {
            Matcher m = TEXT.matcher(call);
            if (!m.matches()) {
                throw new IllegalStateException(file + ": " + call);
            }
            String text = m.group(2);
            int first = Integer.parseInt(m.group(3));
            int last = m.group(4) == null ? first : Integer.parseInt(m.group(4));
            for (int due = first; due <= last; due++) {
                for (int i = 0; i < text.length(); i += 8) {
                    String bytes = text.substring(i, Math.min(i + 8, text.length()));
                    rows.add(row("feed", List.of("" + bytes.length(), "'" + bytes + "'"), null));
                }
                rows.add(row("order", List.of(m.group(1)), due));
            }
        }

        private void addCalls(String call, List<Row> rows) {
            Matcher m = CALL.matcher(call);
            if (!m.matches()) {
                throw new IllegalStateException(file + ": " + call);
            }
            List<String> with = m.group(2).isEmpty() ? List.of() : List.of(m.group(2).split(", "));
            int first = Integer.parseInt(m.group(3));
            int last = m.group(4) == null ? first : Integer.parseInt(m.group(4));
            int times = m.group(5) == null ? 1 : Integer.parseInt(m.group(5));
            for (int due = first; due <= last; due++) {
                for (int i = 0; i < times; i++) {
                    rows.add(row(m.group(1), with, due));
                }
            }
        }
    }

    private static Row row(String name, List<String> with, Integer due) {
        Method method = FACE.get(name);
        String call = name + "(" + String.join(", ", with) + ")";
        if (method == null || method.getParameterCount() != with.size()) {
            throw new IllegalStateException("no such call: " + call);
        }
        Object[] values = new Object[with.size()];
        for (int i = 0; i < values.length; i++) {
            values[i] = value(method.getParameterTypes()[i], with.get(i));
        }
        return new Row(call, method, values, due);
    }

    private static Object value(Class<?> type, String text) {
        if (type == boolean.class) {
            return Boolean.valueOf(text);
        }
        if (type == int.class) {
            return Integer.valueOf(text);
        }
        if (!text.startsWith("'")) {
            return text.startsWith("0x") ? Long.parseUnsignedLong(text.substring(2), 16) : Long.parseLong(text);
        }
        long bytes = 0;
        for (int i = text.length() - 2; i > 0; i--) {
            bytes = bytes << 8 | text.charAt(i) & 255;
        }
        return bytes;
    }

    /** All that can be asked of an object; the last of them tell what can't be asked for. */
    private static final class Questions {
        private static List<Row> all = null;

        static List<Row> all() {
            if (all == null) {
                all = new ArrayList<>();
                ofCounts();
                ofOffices();
                ofUnitsAndMen();
                ofMails();
                ofTheShed();
                byTelling();
            }
            return all;
        }

        private static void ask(String name, Object... with) {
            List<String> words = new ArrayList<>();
            for (Object word : with) {
                words.add(word.toString());
            }
            all.add(row(name, words, null));
        }

        private static void ofCounts() {
            for (int what = 0; what <= 18; what++) {
                if (what < 11 || what > 16) {
                    ask("count", what);
                }
            }
        }

        private static void ofOffices() {
            for (int office = 0; office < 12; office++) {
                ask("late", office);
                ask("waiting", office);
                for (int other = 0; other <= office; other++) {
                    ask("far", office, other);
                    ask("far", other, office);
                }
            }
        }

        private static void ofUnitsAndMen() {
            for (int unit = 0; unit < 16; unit++) {
                for (int hour : new int[] {0, 1, 2, 3, 5, 10, 100, 1999, 2000}) {
                    ask("is", unit, hour);
                }
                ask("list", 0, unit, 2000);
                ask("list", 1, unit, 2000);
                ask("list", 1, unit, 5);
                ask("cover", unit, 14640);
                ask("sure", unit, 14640);
            }
            for (int man = 0; man < 40; man++) {
                ask("stateOf", man, 0, -1);
                ask("stateOf", man, 2000, -1);
                ask("stateOf", man, 2000, 0);
                ask("manAt", man);
                ask("paid", man);
            }
            for (int digit = 0; digit < 11; digit++) {
                ask("cover", -1, digit * 1331 + 1330);
                ask("sure", -1, 14630 + digit);
            }
        }

        private static void ofMails() {
            for (int mail = 0; mail < 60; mail++) {
                for (int what = 0; what < 8; what++) {
                    ask("mailOf", mail, what);
                }
                for (int purpose = 0; purpose < 3; purpose++) {
                    ask("holds", purpose, mail);
                }
                for (int i = 0; i < 4; i++) {
                    ask("trace", mail, i);
                }
                ask("goal", mail);
                ask("next", mail);
                ask("fro", mail);
                ask("after", mail, 0);
                ask("after", mail, 1);
            }
        }

        private static void ofTheShed() {
            for (int what = 0; what < 3; what++) {
                ask("best", what);
            }
            ask("judge", 0);
            ask("judge", 1);
        }

        private static void byTelling() {
            ask("order", 0);
            ask("holds", 0, 0);
            ask("keep", 9);
            ask("hours", 3);
            for (int mail = 0; mail < 60; mail++) {
                ask("mailOf", mail, 1);
                ask("mailOf", mail, 3);
            }
            ask("shut", 0, 2000, 2000);
            ask("move", 0, 0, 2000);
            ask("state", 0, 0, 0);
            ask("feed", 3, "'k=0'");
            ask("order", 0);
            ask("put", 0);
            ask("sack", 1, 1, 1);
            ask("mail", 0, 0, 0, 0);
            ask("man", 0, 0);
            ask("way", 0, 1, 1, 0, 1);
            for (int office = 0; office < 12; office++) {
                ask("staff", office, 1, true);
            }
            ask("office", 1, true);
        }
    }
}
