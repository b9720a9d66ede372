import java.io.IOException;
import java.nio.file.Files;
import java.nio.file.Path;
import java.util.List;
import java.util.regex.Matcher;
import java.util.regex.Pattern;

/** What can be seen of LANGUAGE.md's rules from the program's lines alone. */
final class LanguageTest {
    private static final Path PROGRAM = Path.of("src/main/java/GiftsOfCourts.java");
    private static final Pattern METHOD = Pattern.compile("^( {4}| {8})(?=\\S)(?!return|else|new)[\\w\\[\\] ]+\\b(\\w+)\\((.*)\\).*\\{$");
    private static final List<String> FORBIDDEN = List.of(
            "->", "::", "\\bfinally\\b", "\\bcatch\\b", "\\btry\\b", "\\bsynchronized\\b", "\\bassert\\b", "\\bvar\\b",
            "^package\\b", "Exact\\(", "\\+ \"", "\" \\+", "\\bObject\\b", "\\bSystem\\.(?!arraycopy)", "\\bdouble\\b",
            "static \\{", "\\bnull\\b", "\\bfloat\\b", "\\bprotected\\b", "hashCode|toString|equals\\(", "instanceof",
            "\\bwhile \\(true\\)", "^import (?!java\\.util\\.NoSuchElementException;)", "throw new (?!NoSuchElementException\\(\\);)");

    private static final Check check = new Check();

    public static void main(String[] args) throws IOException {
        List<String> lines = Files.readAllLines(PROGRAM);
        for (int i = 0; i < lines.size(); i++) {
            String code = lines.get(i).replaceAll("//.*|/\\*\\*.*", "");
            for (String forbidden : FORBIDDEN) {
                check.due("line " + (i + 1) + " has " + forbidden, Pattern.compile(forbidden).matcher(code).find(), false);
            }
            check.due("line " + (i + 1) + " has signs above 127", lines.get(i).chars().anyMatch(c -> c > 127), false);
        }
        methods(lines);
        making(lines);
        check.end();
    }

    private static void methods(List<String> lines) {
        int found = 0;
        for (int i = 0; i < lines.size(); i++) {
            Matcher method = METHOD.matcher(lines.get(i));
            if (method.matches()) {
                found++;
                int end = lines.subList(i, lines.size()).indexOf(method.group(1) + "}");
                check.due(method.group(2) + " is short", end > 0 && end <= 60, true);
                check.due(method.group(2) + " has at most seven parameters", method.group(3).split(",").length <= 7, true);
            }
        }
        check.due("methods were found", found > 100, true);
    }

    /** The room of a run is counted: objects are made by constructors and fields alone, but for what is thrown. */
    private static void making(List<String> lines) {
        String constructorEnd = "";
        int found = 0;
        for (int i = 0; i < lines.size(); i++) {
            String line = lines.get(i);
            if (line.matches(" +(public )?[A-Z]\\w+\\(.*\\) \\{")) {
                constructorEnd = line.replaceAll("\\S.*", "}");
            } else if (line.equals(constructorEnd)) {
                constructorEnd = "";
            }
            if (line.matches(".*\\bnew\\b.*[(\\[].*;")) {
                found++;
                boolean field = line.matches(" +(private )?(static )?final .*");
                boolean thrown = line.contains("throw new");
                check.due("line " + (i + 1) + " makes an object in a method", !constructorEnd.isEmpty() || field || thrown, true);
            }
        }
        check.due("making was found", found > 40, true);
    }
}
