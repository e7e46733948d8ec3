import java.io.IOException;
import java.lang.reflect.Array;
import java.lang.reflect.Constructor;
import java.lang.reflect.Field;
import java.lang.reflect.Method;
import java.lang.reflect.Modifier;
import java.nio.file.Files;
import java.nio.file.Path;
import java.util.ArrayList;
import java.util.IdentityHashMap;
import java.util.List;
import java.util.Map;
import java.util.Set;
import java.util.TreeSet;
import java.util.regex.Matcher;
import java.util.regex.Pattern;

/** The face of the class, the rules of LANGUAGE.md that a test can see, and the room that an object takes. */
public final class FaceTests {
    private static final Path PROGRAM = Path.of("src/main/java/FieldPost.java");
    private static final String[] FACE = {
        "int office(int,boolean)", "int staff(int,int,boolean)", "int way(int,int,int,int,int)", "int shut(int,int,int)",
        "int far(int,int)", "int late(int)", "int hours(int)", "int move(int,int,int)", "int is(int,int)", "int list(int,int,int)",
        "int man(int,int)", "int state(int,int,int)", "int stateOf(int,int,int)", "int manAt(int)", "int mail(int,int,int,int)",
        "int feed(int,long)", "int order(int)", "int holds(int,int)", "int keep(int)", "int mailOf(int,int)", "int goal(int)",
        "int next(int)", "int trace(int,int)", "int fro(int)", "int after(int,int)", "int paid(int)", "int cover(int,int)",
        "int sure(int,int)", "int sack(int,int,int)", "int best(int)", "int put(int)", "int judge(int)", "int waiting(int)",
        "int count(int)"};
    private static int wrong = 0;

    public static void main(String[] args) throws IOException, IllegalAccessException {
        face();
        members();
        classesInside();
        source();
        room();
        calls();
        System.out.println(wrong == 0 ? "the face is as due" : wrong + " things are not as due");
        if (wrong != 0) {
            System.exit(1);
        }
    }

    private static void must(boolean holds, String what) {
        if (!holds) {
            wrong++;
            System.out.println("not as due: " + what);
        }
    }

    private static String signature(Method m) {
        List<String> types = new ArrayList<>();
        for (Class<?> type : m.getParameterTypes()) {
            types.add(type.getSimpleName());
        }
        return m.getReturnType().getSimpleName() + " " + m.getName() + "(" + String.join(",", types) + ")";
    }

    private static void face() {
        must(Modifier.isPublic(FieldPost.class.getModifiers()), "the class is public");
        must(Modifier.isFinal(FieldPost.class.getModifiers()), "the class is final");
        must(FieldPost.class.getPackageName().isEmpty(), "no package");
        must(FieldPost.class.getSuperclass() == Object.class && FieldPost.class.getInterfaces().length == 0, "no class above it");
        Set<String> found = new TreeSet<>();
        for (Method m : FieldPost.class.getDeclaredMethods()) {
            if (Modifier.isPublic(m.getModifiers()) && !Modifier.isStatic(m.getModifiers())) {
                found.add(signature(m));
            }
        }
        must(found.equals(new TreeSet<>(List.of(FACE))), "public methods: " + found);
        Constructor<?>[] made = FieldPost.class.getDeclaredConstructors();
        must(made.length == 1 && Modifier.isPublic(made[0].getModifiers()) && made[0].getParameterCount() == 0, "one public constructor");
    }

    private static void members() {
        Set<String> names = new TreeSet<>();
        for (String signature : FACE) {
            names.add(signature.substring(4, signature.indexOf('(')));
        }
        for (Method m : FieldPost.class.getDeclaredMethods()) {
            boolean hidden = Modifier.isPrivate(m.getModifiers());
            must(hidden || Modifier.isPublic(m.getModifiers()), m + " is public or private");
            must(!hidden || !names.contains(m.getName()), m + " bears the name of a public one");
        }
        for (Field f : FieldPost.class.getDeclaredFields()) {
            must(Modifier.isPrivate(f.getModifiers()), f + " is private");
        }
        for (Class<?> c : FieldPost.class.getDeclaredClasses()) {
            for (Method m : c.getDeclaredMethods()) {
                must(!names.contains(m.getName()), m + " bears the name of a public one");
            }
        }
    }

    private static List<Class<?>> allClasses() {
        List<Class<?>> all = new ArrayList<>(List.of(FieldPost.class));
        all.addAll(List.of(FieldPost.class.getDeclaredClasses()));
        return all;
    }

    private static void classesInside() {
        must(allClasses().size() <= 12, "at most twelve classes");
        for (Class<?> c : FieldPost.class.getDeclaredClasses()) {
            must(Modifier.isStatic(c.getModifiers()), c + " is static");
            must(!Modifier.isPublic(c.getModifiers()) && !Modifier.isProtected(c.getModifiers()), c + " is private or package-visible");
        }
        for (Class<?> c : allClasses()) {
            int fields = 0;
            for (Field f : c.getDeclaredFields()) {
                boolean shared = Modifier.isStatic(f.getModifiers());
                fields += shared ? 0 : 1;
                must(!shared || Modifier.isFinal(f.getModifiers()), f + " is final");
            }
            must(fields <= 20, c + " has " + fields + " fields");
            for (Method m : c.getDeclaredMethods()) {
                must(m.getParameterCount() <= 7, m + " takes at most seven");
                must(!m.isSynthetic(), m + " is written out");
            }
        }
    }

    private static void source() throws IOException {
        String text = Files.readString(PROGRAM);
        String code = text.replaceAll("(?s)/\\*.*?\\*/", " ").replaceAll("//[^\n]*", " ").replaceAll("'[^'\n]*'", "' '");
        String[] barred = {"throw", "throws", "try", "catch", "finally", "synchronized", "assert", "protected", "package", "Object",
            "System\\.(?!arraycopy)", "Exact", "->", "::", "@", "null", "random", "static\\s*\\{"};
        for (String word : barred) {
            boolean letters = Character.isLetter(word.charAt(0));
            Matcher m = Pattern.compile(letters && word.matches("\\w+") ? "\\b\\w*" + word + "\\w*\\b" : word).matcher(code);
            while (m.find()) {
                String hit = m.group();
                must(letters && word.matches("\\w+") && !hit.equals(word) && !word.equals("Exact"), "the code has " + hit);
            }
        }
        Matcher imported = Pattern.compile("import\\s+([\\w.]+);").matcher(code);
        while (imported.find()) {
            must(imported.group(1).matches("java\\.util\\.(Arrays|ArrayList|List|Iterator)"), "import " + imported.group(1));
        }
        for (int i = 0; i < text.length(); i++) {
            must(text.charAt(i) < 128, "sign " + (int) text.charAt(i) + " at " + i);
        }
        shortMethods(text.split("\n"));
    }

    private static void shortMethods(String[] lines) {
        Pattern head = Pattern.compile("^( {4}| {8})(?:[\\w\\[\\]]+ )+\\w+\\(.*\\) \\{$");
        for (int i = 0; i < lines.length; i++) {
            Matcher m = head.matcher(lines[i]);
            if (m.find()) {
                int end = i;
                while (end < lines.length && !lines[end].equals(m.group(1) + "}")) {
                    end++;
                }
                must(end - i < 60, "a method of " + (end - i) + " lines: " + lines[i].trim());
            }
        }
    }

    /** All that hangs on a new object, counted once. */
    private static void room() throws IllegalAccessException {
        Map<Object, Boolean> seen = new IdentityHashMap<>();
        long[] counted = new long[2];
        count(new FieldPost(), seen, counted, 0);
        System.out.println("a new object: " + counted[0] + " objects and arrays, " + counted[1] + " fields and elements");
        must(counted[0] <= 100, "at most 100 objects and arrays");
        must(counted[1] <= 8000, "at most 8000 fields and elements");
    }

    private static void count(Object o, Map<Object, Boolean> seen, long[] counted, int deep) throws IllegalAccessException {
        if (o == null || deep > 9 || seen.put(o, true) != null) {
            return;
        }
        counted[0]++;
        if (o.getClass().isArray()) {
            counted[1] += Array.getLength(o);
            for (int i = 0; !o.getClass().getComponentType().isPrimitive() && i < Array.getLength(o); i++) {
                count(Array.get(o, i), seen, counted, deep + 1);
            }
            return;
        }
        for (Field f : o.getClass().getDeclaredFields()) {
            if (!Modifier.isStatic(f.getModifiers())) {
                counted[1]++;
                f.setAccessible(true);
                if (!f.getType().isPrimitive()) {
                    count(f.get(o), seen, counted, deep + 1);
                }
            }
        }
    }

    /** No call makes anything: all rows are made with the object. */
    private static void calls() {
        com.sun.management.ThreadMXBean threads =
            (com.sun.management.ThreadMXBean) java.lang.management.ManagementFactory.getThreadMXBean();
        long least = Long.MAX_VALUE;
        for (int round = 0; round < 5; round++) {
            FieldPost x = new FieldPost();
            long before = threads.getCurrentThreadAllocatedBytes();
            everyCall(x);
            least = Math.min(least, threads.getCurrentThreadAllocatedBytes() - before);
        }
        System.out.println("bytes made by a run of every call: " + least);
        must(least < 256, "calls make no objects");
    }

    private static int everyCall(FieldPost x) {
        int sum = x.office(9, true) + x.office(9, false) + x.staff(0, 8, true) + x.way(0, 1, 1, 0, 1) + x.shut(0, 5, 6);
        sum += x.far(0, 1) + x.late(1) + x.man(0, 1) + x.move(0, 1, 0) + x.state(0, 1, 1) + x.keep(4) + x.sack(1, 2, 3) + x.put(0);
        for (int i = 0; i < 60; i++) {
            sum += x.mail(i % 3, 0, 0, 1 + i);
        }
        sum += x.feed(7, 14984591780691311L) + x.order(1) + x.feed(1, 'z') + x.order(1) + x.holds(1, 0) + x.goal(0) + x.next(0);
        sum += x.after(59, 0) + x.hours(50) + x.is(0, 1) + x.list(0, 0, 1) + x.stateOf(0, 1, 0) + x.manAt(0) + x.mailOf(0, 1);
        sum += x.trace(0, 0) + x.fro(0) + x.paid(0) + x.cover(-1, 14640) + x.sure(-1, 14640) + x.best(0) + x.judge(0) + x.judge(1);
        return sum + x.waiting(0) + x.count(0) + x.mailOf(99, 0);
    }
}
