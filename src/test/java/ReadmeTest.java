import java.io.IOException;
import java.lang.reflect.Method;
import java.lang.reflect.Modifier;
import java.nio.file.Files;
import java.nio.file.Path;
import java.util.ArrayList;
import java.util.Arrays;
import java.util.HashMap;
import java.util.List;
import java.util.Map;
import java.util.regex.Matcher;
import java.util.regex.Pattern;
import java.util.stream.Collectors;

/** What README.md says of the class holds: its examples answer what stands beside them, its tables have the face. */
public final class ReadmeTest {
    private static final Pattern MADE = Pattern.compile("GuessFences (\\w+) = new GuessFences\\(\\);");
    private static final Pattern CALL = Pattern.compile("(\\w+)\\.(\\w+)\\(([-\\d, ]*)\\);(?: +// (.*))?");
    private static final Pattern ANSWER = Pattern.compile("(-?\\d+|NONE|true|false)(:.*)?");
    private static final Pattern ROW = Pattern.compile("\\| `(\\w+ \\w+\\([\\w, ]*\\))` \\| .* \\| (.*) \\|");
    private static final Pattern THROWN = Pattern.compile("`(\\w+Exception)`");

    public static void main(String[] args) throws IOException, ReflectiveOperationException {
        List<String> lines = Files.readAllLines(Path.of("README.md"));
        examples(lines);
        tables(lines);
        Due.end("ReadmeTest");
    }

    private static void examples(List<String> lines) throws ReflectiveOperationException {
        Map<String, GuessFences> objects = new HashMap<>();
        boolean inside = false;
        int compared = 0;
        for (String line : lines) {
            if (line.startsWith("```")) {
                inside = line.equals("```java");
            } else if (inside) {
                compared += example(line, objects);
            }
        }
        Due.is("README: some answers were compared", compared > 20, true);
    }

    /** Answers how many answers it compared. */
    private static int example(String line, Map<String, GuessFences> objects) throws ReflectiveOperationException {
        Matcher made = MADE.matcher(line);
        Matcher call = CALL.matcher(line);
        if (made.matches()) {
            objects.put(made.group(1), new GuessFences());
            return 0;
        }
        Due.is("README: '" + line + "' is a call", call.matches(), true);
        Object got = answer(objects.get(call.group(1)), call.group(2), call.group(3));
        Matcher due = ANSWER.matcher(call.group(4) == null ? "" : call.group(4));
        Due.is("README: '" + line + "' has the answer beside it", due.matches(), got != null);
        if (got != null && due.matches()) {
            String want = due.group(1).equals("NONE") ? "-1" : due.group(1);
            Due.is("README: " + line, got.toString(), want);
            return 1;
        }
        return 0;
    }

    private static Object answer(GuessFences x, String name, String numbers) throws ReflectiveOperationException {
        Object[] values = numbers.isEmpty() ? new Object[0]
                : Arrays.stream(numbers.split(", ")).map(Integer::valueOf).toArray();
        Class<?>[] types = new Class<?>[values.length];
        Arrays.fill(types, int.class);
        return GuessFences.class.getMethod(name, types).invoke(x, values);
    }

    private static void tables(List<String> lines) {
        List<String> rows = new ArrayList<>();
        for (String line : lines) {
            Matcher row = ROW.matcher(line);
            if (row.matches()) {
                rows.add(row.group(1).replaceAll("(int) \\w+([,)])", "$1$2") + thrown(row.group(2)));
            }
        }
        List<String> face = new ArrayList<>();
        for (Method m : GuessFences.class.getDeclaredMethods()) {
            if (Modifier.isPublic(m.getModifiers())) {
                face.add(signature(m));
            }
        }
        face.forEach(method -> Due.is("README: a row for " + method, rows.contains(method), true));
        Due.is("README: rows", rows.size(), face.size());
    }

    private static String thrown(String cell) {
        Matcher named = THROWN.matcher(cell);
        StringBuilder all = new StringBuilder();
        while (named.find()) {
            all.append(' ').append(named.group(1));
        }
        Due.is("README: '" + cell + "' says nothing if nothing is thrown", cell.equals("nothing"), all.length() == 0);
        return all.toString();
    }

    private static String signature(Method m) {
        String types = Arrays.stream(m.getParameterTypes()).map(Class::getSimpleName).collect(Collectors.joining(", "));
        String thrown = Arrays.stream(m.getExceptionTypes()).map(e -> " " + e.getSimpleName()).collect(Collectors.joining());
        return m.getReturnType().getSimpleName() + " " + m.getName() + "(" + types + ")" + thrown;
    }
}
