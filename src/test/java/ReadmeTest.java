import java.io.IOException;
import java.lang.reflect.InvocationTargetException;
import java.lang.reflect.Method;
import java.nio.file.Files;
import java.nio.file.Path;
import java.util.Arrays;
import java.util.TreeSet;
import java.util.regex.Matcher;
import java.util.regex.Pattern;

/** Makes the calls of README.md's example, in their order: each answers what the line tells. */
public final class ReadmeTest {
    private static final Pattern LINE = Pattern.compile("x\\.(\\w+)\\(([^)]*)\\); +// (\\w+): .*");

    private ReadmeTest() {
    }

    public static void main(String[] args) throws IOException, ReflectiveOperationException {
        Checks checks = new Checks();
        ReadMapper x = new ReadMapper();
        String readme = Files.readString(Path.of("README.md"));
        int told = 0;
        for (String line : readme.lines().toList()) {
            Matcher m = LINE.matcher(line);
            if (m.matches()) {
                told++;
                checks.due(line, answer(x, m.group(1), m.group(2)), m.group(3));
            }
        }
        long begun = readme.lines().filter(l -> l.startsWith("x.")).count();
        checks.due("lines of the example that tell an answer", told, begun);
        checks.due("there is an example", told > 0, true);
        checkTable(checks, readme);
        checks.end("ReadmeTest");
    }

    private static Object answer(ReadMapper x, String name, String arguments) throws ReflectiveOperationException {
        Method method = Arrays.stream(ReadMapper.class.getDeclaredMethods())
                .filter(m -> m.getName().equals(name)).findFirst().orElseThrow();
        String[] written = arguments.isEmpty() ? new String[0] : arguments.split(", ");
        Object[] values = new Object[written.length];
        for (int i = 0; i < written.length; i++) {
            long value = Long.decode(written[i].replaceAll("[_L]", ""));
            values[i] = written[i].endsWith("L") ? (Object) value : (Object) (int) value;
        }
        try {
            return method.invoke(x, values);
        } catch (InvocationTargetException e) {
            return e.getCause();
        }
    }

    /** Each call of the face is named in the table, with what it throws. */
    private static void checkTable(Checks checks, String readme) {
        TreeSet<String> face = new TreeSet<>();
        for (Method m : FaceTest.shownMethods()) {
            StringBuilder told = new StringBuilder(m.getName());
            for (Class<?> thrown : m.getExceptionTypes()) {
                told.append(' ').append(thrown.getSimpleName());
            }
            face.add(told.toString());
        }
        TreeSet<String> named = new TreeSet<>();
        for (String line : readme.lines().filter(l -> l.startsWith("| `")).toList()) {
            String[] cells = line.split("\\|");
            for (String call : cells[1].split("`, `")) {
                String thrown = cells.length > 3 ? cells[3].replaceAll("[`,]", "") : "";
                named.add((call.replaceAll("[` ]|\\(.*", "") + " " + thrown.strip()).strip());
            }
        }
        checks.due("the calls of the table", named, face);
    }
}
