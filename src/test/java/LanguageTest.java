import java.io.IOException;
import java.nio.file.Files;
import java.nio.file.Path;
import java.util.List;
import java.util.regex.Matcher;
import java.util.regex.Pattern;

/** What can be seen of LANGUAGE.md's rules from the program's lines alone. */
final class LanguageTest {
    private static final Path PROGRAM = Path.of("src/main/java/GiftsOfCourts.java");
    private static final Pattern METHOD = Pattern.compile("^( {4}| {8})(?=\\S)(?!return|else|new)[\\w\\[\\] ]+\\b(\\w+)\\((.*)\\).*\\{$");
    private static final List<String> FORBIDDEN = List.of(
            "->", "::", "\\bfinally\\b", "\\bcatch\\b", "\\btry\\b", "\\bsynchronized\\b", "\\bassert\\b", "\\bvar\\b",
            "^package\\b", "Exact\\(", "\\+ \"", "\" \\+", "\\bObject\\b", "\\bSystem\\.(?!arraycopy)", "\\bdouble\\b",
            "static \\{", "\\bprotected\\b", "hashCode|toString|equals\\(", "instanceof", "\\bwhile \\(true\\)",
            "^import (?!java\\.util\\.NoSuchElementException;)", "throw new (?!NoSuchElementException\\(\\);)");

    private static final Check check = new Check();

    public static void main(String[] args) throws IOException {
        List<String> lines = Files.readAllLines(PROGRAM);
        for (int i = 0; i < lines.size(); i++) {
            String code = lines.get(i).replaceAll("//.*|/\\*\\*.*", "");
            for (String forbidden : FORBIDDEN) {
                check.due("line " + (i + 1) + " has " + forbidden, Pattern.compile(forbidden).matcher(code).find(), false);
            }
            check.due("line " + (i + 1) + " has signs above 127", lines.get(i).chars().anyMatch(c -> c > 127), false);
        }
        methods(lines);
        check.end();
    }

    private static void methods(List<String> lines) {
        int found = 0;
        for (int i = 0; i < lines.size(); i++) {
            Matcher method = METHOD.matcher(lines.get(i));
            if (method.matches()) {
                found++;
                int end = lines.subList(i, lines.size()).indexOf(method.group(1) + "}");
                check.due(method.group(2) + " is short", end > 0 && end <= 60, true);
                check.due(method.group(2) + " has at most seven parameters", method.group(3).split(",").length <= 7, true);
            }
        }
        check.due("methods were found", found > 100, true);
    }
}
