import java.lang.reflect.Method;
import java.lang.reflect.Modifier;
import java.nio.file.Files;
import java.nio.file.Path;
import java.util.ArrayList;
import java.util.List;
import java.util.Set;
import java.util.TreeSet;
import java.util.regex.Matcher;
import java.util.regex.Pattern;

/** What README.md says of the calls: the example's answers, and the calls in the table. */
public final class ReadmeTest {
    private static final Pattern EXAMPLE = Pattern.compile("x\\.(\\w+)\\((.*)\\); +// (-?\\d+)\\b.*");
    private static final Pattern ROW = Pattern.compile("\\| `(\\w+)\\((.*)\\)` \\|.*");

    private static int wrong = 0;

    public static void main(String[] args) throws Exception {
        List<String> lines = Files.readAllLines(Path.of("README.md"));
        example(lines);
        table(lines);
        System.out.println(wrong == 0 ? "the README holds" : wrong + " lines of the README do not hold");
        if (wrong != 0) {
            System.exit(1);
        }
    }

    private static void check(boolean holds, String told) {
        if (!holds) {
            wrong++;
            System.out.println(told);
        }
    }

    private static void example(List<String> lines) throws Exception {
        SneezeRace x = new SneezeRace();
        int asked = 0;
        for (String line : lines) {
            Matcher call = EXAMPLE.matcher(line);
            if (call.matches()) {
                asked++;
                long got = answer(x, call.group(1), call.group(2));
                check(got == Long.parseLong(call.group(3)), line + ": answered " + got);
            } else {
                check(!line.startsWith("x."), "no answer stands in: " + line);
            }
        }
        check(asked > 10, "the example is not found");
    }

    private static long answer(SneezeRace x, String name, String told) throws Exception {
        List<Object> numbers = new ArrayList<>();
        for (String number : told.isEmpty() ? new String[0] : told.split(", ")) {
            numbers.add(number.startsWith("'") ? (int) number.charAt(1) : Integer.parseInt(number));
        }
        for (Method method : SneezeRace.class.getMethods()) {
            if (method.getName().equals(name) && method.getParameterCount() == numbers.size()) {
                return ((Number) method.invoke(x, numbers.toArray())).longValue();
            }
        }
        throw new IllegalStateException("no call " + name);
    }

    private static void table(List<String> lines) {
        Set<String> rows = new TreeSet<>();
        for (String line : lines) {
            Matcher row = ROW.matcher(line);
            if (row.matches()) {
                int many = row.group(2).isEmpty() ? 0 : row.group(2).split(", ").length;
                check(rows.add(row.group(1) + " " + many), "a call stands twice: " + line);
            }
        }
        Set<String> face = new TreeSet<>();
        for (Method method : SneezeRace.class.getDeclaredMethods()) {
            if (Modifier.isPublic(method.getModifiers())) {
                face.add(method.getName() + " " + method.getParameterCount());
            }
        }
        check(rows.equals(face), "the table has " + rows + ", the class " + face);
    }
}
