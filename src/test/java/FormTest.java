import java.lang.management.ManagementFactory;
import java.lang.reflect.Constructor;
import java.lang.reflect.Field;
import java.lang.reflect.Method;
import java.lang.reflect.Modifier;
import java.nio.file.Files;
import java.nio.file.Path;
import java.util.ArrayList;
import java.util.List;
import java.util.TreeSet;
import java.util.regex.Matcher;
import java.util.regex.Pattern;

/** The form of the class: its face, what LANGUAGE.md leaves out, and what its calls make. */
public final class FormTest {
    private static int wrong = 0;

    private static final String FACE = "int hall() int row(int,int) int soul(int,int) int type(int) int clear() int read() "
        + "int shows(int,int) int moves(int,int) int sends(int) int coat(int,int) int minutes(int) int undo() "
        + "int of(int,int) int about(int,int) int makes(int,int) int order(int) int best(int,int) "
        + "int beside(int,int,int) int wrong() int swaps() int seen(int,int,int) int where(int,int) int tell(int) "
        + "int note(int,int,int) int mark(int,int,int,int) int forget(int) int is(int) int look(int) int kinds(int) "
        + "int ask(int) int whispers(int,int,int) int wet(int,int) int evenings(int,int) long part(int) int image(int) "
        + "int from(int) int status(int) int count(int) long digest()";

    public static void main(String[] args) throws Exception {
        face();
        nested();
        source(Files.readString(Path.of(args.length > 0 ? args[0] : "src/main/java/UsherRows.java")));
        room();
        System.out.println(wrong == 0 ? "the form is kept" : wrong + " faults of form");
        if (wrong != 0) {
            System.exit(1);
        }
    }

    private static void check(boolean is, String what) {
        if (!is) {
            wrong++;
            System.out.println(what);
        }
    }

    private static void face() {
        TreeSet<String> due = new TreeSet<>(List.of(FACE.replace(") ", ")\n").split("\n")));
        TreeSet<String> there = new TreeSet<>();
        for (Method m : UsherRows.class.getDeclaredMethods()) {
            if (Modifier.isPublic(m.getModifiers())) {
                List<String> types = new ArrayList<>();
                for (Class<?> c : m.getParameterTypes()) {
                    types.add(c.getName());
                }
                there.add(m.getReturnType() + " " + m.getName() + "(" + String.join(",", types) + ")");
            } else {
                check(Modifier.isPrivate(m.getModifiers()), "not private: " + m);
            }
        }
        check(there.equals(due), "the face is " + there + ", due is " + due);
        TreeSet<String> constants = new TreeSet<>();
        for (Field f : UsherRows.class.getDeclaredFields()) {
            if (Modifier.isPublic(f.getModifiers())) {
                constants.add(f.getName());
            } else {
                check(Modifier.isPrivate(f.getModifiers()), "not private: " + f);
            }
            check(!Modifier.isStatic(f.getModifiers()) || Modifier.isFinal(f.getModifiers()), "static, not final: " + f);
        }
        check(constants.equals(new TreeSet<>(List.of("NONE", "BAD", "NO", "FULL"))), "constants are " + constants);
        check(UsherRows.NONE == -1 && UsherRows.BAD == -2 && UsherRows.NO == -3 && UsherRows.FULL == -4, "constants");
        Constructor<?>[] constructors = UsherRows.class.getDeclaredConstructors();
        check(constructors.length == 1 && Modifier.isPublic(constructors[0].getModifiers()), "constructors");
        check(Modifier.isFinal(UsherRows.class.getModifiers()), "the class is final");
    }

    private static void nested() {
        TreeSet<String> names = new TreeSet<>();
        for (Method m : UsherRows.class.getDeclaredMethods()) {
            if (Modifier.isPublic(m.getModifiers())) {
                names.add(m.getName());
            }
        }
        List<Class<?>> classes = new ArrayList<>(List.of(UsherRows.class.getDeclaredClasses()));
        check(classes.size() < 14, "too many classes");
        for (Class<?> c : classes) {
            check(Modifier.isStatic(c.getModifiers()), "not static: " + c);
            int fields = 0;
            for (Field f : c.getDeclaredFields()) {
                fields += Modifier.isStatic(f.getModifiers()) ? 0 : 1;
            }
            check(fields <= 24, "too many fields: " + c);
            classMethods(c, names);
        }
        for (Method m : UsherRows.class.getDeclaredMethods()) {
            check(Modifier.isPublic(m.getModifiers()) || !names.contains(m.getName()), "a private method's name: " + m);
        }
    }

    private static void classMethods(Class<?> c, TreeSet<String> names) {
        for (Method m : c.getDeclaredMethods()) {
            check(!Modifier.isPrivate(m.getModifiers()) || !names.contains(m.getName()), "a private method's name: " + m);
            check(m.getParameterCount() <= 7, "too many parameters: " + m);
        }
    }

    private static void source(String text) {
        String code = text.replaceAll("(?s)/\\*.*?\\*/", "").replaceAll("//[^\n]*", "").replaceAll("\"[^\"\n]*\"", "\"\"");
        String noArrows = code.replaceAll("(\\bcase\\b[^:;{}]*?|\\bdefault\\s*)->", "");
        String[] words = {"throw", "throws", "try", "catch", "synchronized", "assert", "package", "->", "::", "hashCode",
            "Random", "Thread", "Object", "HashMap", "currentTimeMillis", "nanoTime", "out.println"};
        for (String word : words) {
            String quoted = Pattern.quote(word);
            boolean letters = Character.isLetter(word.charAt(0));
            check(!Pattern.compile(letters ? "\\b" + quoted + "\\b" : quoted).matcher(noArrows).find(), "the code has " + word);
        }
        library(code);
        for (int n = 0; n < text.length(); n++) {
            check(text.charAt(n) < 128, "a sign beyond 127 at " + n);
        }
        int from = 0;
        String[] lines = code.split("\n");
        for (int n = 0; n < lines.length; n++) {
            if (lines[n].matches(" {4,8}\\w.*\\(.*\\) \\{")) {
                from = n;
            }
            if (lines[n].matches(" {4,8}\\}")) {
                check(n - from < 70, "a long method at line " + from);
            }
        }
    }

    private static void library(String code) {
        Matcher m = Pattern.compile("\\b(System|Arrays)\\.(\\w+)").matcher(code);
        TreeSet<String> allowed = new TreeSet<>(List.of("System.arraycopy", "Arrays.copyOf", "Arrays.copyOfRange", "Arrays.fill"));
        while (m.find()) {
            check(allowed.contains(m.group()), "the code calls " + m.group());
        }
        check(!Pattern.compile("\\b(Math|Integer|Long)\\.\\w+Exact\\b").matcher(code).find(), "the code calls one that is Exact");
        m = Pattern.compile("\\bimport\\s+([\\w.*]+)").matcher(code);
        while (m.find()) {
            check(m.group(1).startsWith("java.util."), "the code imports " + m.group(1));
        }
    }

    /** The room: far less than its share for an object with all its calls. */
    private static void room() {
        var threads = (com.sun.management.ThreadMXBean) ManagementFactory.getThreadMXBean();
        long self = Thread.currentThread().getId();
        dearRun(new UsherRows());
        long before = threads.getThreadAllocatedBytes(self);
        UsherRows x = new UsherRows();
        dearRun(x);
        long after = threads.getThreadAllocatedBytes(self);
        check(after - before < 1 << 20, "an object with 500 calls takes " + (after - before) + " bytes");
    }

    private static void dearRun(UsherRows x) {
        String text = "hall 0 1 2 3 5;soul 0 3;soul 1 5;soul 2 4;soul 3 0;soul 4 14;soul 5 29;coat 8;sit 0 3;sit 1 1;";
        for (int n = 0; n < text.length(); n++) {
            x.type(text.charAt(n));
        }
        for (int n = 0; n < 20; n++) {
            x.read();
            x.shows(2, 4);
            x.undo();
            x.order(3);
            x.best(2, 0);
            x.beside(2, 3, 1);
            x.swaps();
            x.seen(3, 0, 0);
            x.note(1, 1, 6);
            x.mark(3, 1, 1, 1);
            x.where(3, 9);
            x.tell(3);
            x.look(1);
            x.ask(3);
            x.whispers(2, 3, 9);
            x.wet(3, 3);
            x.evenings(n, 60);
            x.image(n & 1);
            x.from(n & 1);
            x.digest();
        }
    }
}
