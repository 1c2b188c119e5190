import java.nio.file.Files;
import java.nio.file.Path;
import java.util.regex.Matcher;
import java.util.regex.Pattern;

/** What README.md shows is so: each line of its Java is run, and answers what stands behind it. */
public final class ReadmeTest {
    private static final Pattern CALL = Pattern.compile("x\\.(\\w+)\\(([^)]*)\\); *// (-?\\d+): .*");
    private static final Pattern TYPED = Pattern.compile("for \\(char c : \"([^\"]*)\"\\.toCharArray\\(\\)\\) x\\.type\\(c\\);");

    public static void main(String[] args) throws Exception {
        Desk.part("README.md");
        UsherRows x = null;
        boolean inJava = false;
        int calls = 0;
        for (String line : Files.readAllLines(Path.of("README.md"))) {
            if (line.startsWith("```")) {
                inJava = line.equals("```java");
            } else if (inJava && line.equals("UsherRows x = new UsherRows();")) {
                x = new UsherRows();
            } else if (inJava) {
                run(x, line);
                calls++;
            }
        }
        Desk.due("are there calls", calls > 0 ? 1 : 0, 1);
        Desk.end();
    }

    private static void run(UsherRows x, String line) throws Exception {
        Matcher typed = TYPED.matcher(line);
        Matcher call = CALL.matcher(line);
        if (typed.matches()) {
            Desk.type(x, typed.group(1));
        } else if (call.matches()) {
            Desk.due(line, answer(x, call.group(1), call.group(2)), Long.parseLong(call.group(3)));
        } else {
            Desk.due("is a call: " + line, 0, 1);
        }
    }

    private static long answer(UsherRows x, String name, String arguments) throws Exception {
        String[] words = arguments.isEmpty() ? new String[0] : arguments.split(", ");
        Class<?>[] types = new Class<?>[words.length];
        Object[] numbers = new Object[words.length];
        for (int n = 0; n < words.length; n++) {
            types[n] = int.class;
            numbers[n] = words[n].equals("UsherRows.NONE") ? UsherRows.NONE : Integer.parseInt(words[n]);
        }
        return ((Number) UsherRows.class.getMethod(name, types).invoke(x, numbers)).longValue();
    }
}
