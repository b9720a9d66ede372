import java.lang.reflect.Method;
import java.lang.reflect.Modifier;
import java.nio.file.Files;
import java.nio.file.Path;
import java.util.List;
import java.util.Set;
import java.util.TreeSet;
import java.util.regex.Matcher;
import java.util.regex.Pattern;

/** README.md: each call that it shows answers what it says there, and its table has every call of the face. */
final class ReadmeTest {
    private static final Pattern TOLD = Pattern.compile("tell\\(x, \"(.*)\"\\);");
    private static final Pattern CALL = Pattern.compile("x\\.(\\w+)\\(([^)]*)\\);\\s*// (-?\\d+)(?:, ROW((?: -?\\d+)+))?(?::.*)?");
    private static final Pattern NAME = Pattern.compile("`(\\w+)`");

    private static final Check check = new Check();

    public static void main(String[] args) throws ReflectiveOperationException, java.io.IOException {
        List<String> lines = Files.readAllLines(Path.of("README.md"));
        calls(lines);
        table(lines);
        check.end();
    }

    private static void calls(List<String> lines) throws ReflectiveOperationException {
        GiftsOfCourts x = new GiftsOfCourts();
        int made = 0;
        for (String line : lines) {
            Matcher told = TOLD.matcher(line);
            if (told.matches()) {
                Check.tell(x, told.group(1));
            } else if (line.startsWith("x.")) {
                Matcher call = CALL.matcher(line);
                check.due("README.md tells the answer of " + line, call.matches(), true);
                call(x, line, call);
                made++;
            }
        }
        check.due("calls were found", made >= 15, true);
    }

    private static void call(GiftsOfCourts x, String line, Matcher call) throws ReflectiveOperationException {
        String[] numbers = call.group(2).isEmpty() ? new String[0] : call.group(2).split(", ");
        Class<?>[] types = new Class<?>[numbers.length];
        Object[] arguments = new Object[numbers.length];
        for (int i = 0; i < numbers.length; i++) {
            types[i] = int.class;
            arguments[i] = Integer.valueOf(numbers[i]);
        }
        Object got = GiftsOfCourts.class.getMethod(call.group(1), types).invoke(x, arguments);
        check.due(line, ((Number) got).longValue(), Long.parseLong(call.group(3)));
        if (call.group(4) != null) {
            String[] row = call.group(4).trim().split(" ");
            long[] want = new long[row.length];
            for (int i = 0; i < row.length; i++) {
                want[i] = Long.parseLong(row[i]);
            }
            check.row(line, x, want);
        }
    }

    private static void table(List<String> lines) {
        Set<String> named = new TreeSet<>();
        for (String line : lines) {
            Matcher name = NAME.matcher(line);
            while (line.startsWith("| ") && name.find()) {
                named.add(name.group(1));
            }
        }
        Set<String> face = new TreeSet<>();
        for (Method method : GiftsOfCourts.class.getDeclaredMethods()) {
            if (Modifier.isPublic(method.getModifiers())) {
                face.add(method.getName());
            }
        }
        check.due("the table of calls " + named, named.equals(face), true);
    }
}
