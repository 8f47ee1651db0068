import java.io.File;
import java.io.IOException;
import java.lang.reflect.Method;
import java.nio.charset.StandardCharsets;
import java.nio.file.Files;
import java.nio.file.Path;
import java.util.ArrayList;
import java.util.List;
import java.util.TreeSet;
import java.util.regex.Matcher;
import java.util.regex.Pattern;

/** Takes the first program and the lines with their answers out of README.md, runs them and compares. */
public final class ReadmeTest {
    private static final Check CHECK = new Check();
    private static final Path PAGE = Path.of("README.md");
    private static final Path TESTS = Path.of("src/test/java");
    private static final Path SOURCE = Path.of("src/main/java/SalaryCapLedger.java");
    private static final Path PLACE = Path.of("build/readme");
    private static final Pattern ANSWERED = Pattern.compile("(ledger\\.\\w+\\(.*\\));\\s+// (throws \\w+|[-\\d.]+)(: .*)?");

    public static void main(String[] args) throws IOException, InterruptedException {
        String page = Files.readString(PAGE);
        List<String> programs = blocks(page, "java");
        Files.createDirectories(PLACE);
        Files.writeString(PLACE.resolve("First.java"), programs.get(0));
        List<String> calls = new ArrayList<>();
        List<String> due = new ArrayList<>();
        Files.writeString(PLACE.resolve("Lines.java"), linesProgram(programs.subList(1, programs.size()), calls, due));
        run("javac", "-d", PLACE.toString(), SOURCE.toString(), PLACE.resolve("First.java").toString(),
                PLACE.resolve("Lines.java").toString());
        CHECK.same("what the first program prints", blocks(page, "text").get(0), run("java", "-cp", PLACE.toString(), "First"));
        String[] got = run("java", "-cp", PLACE.toString(), "Lines").split("\n");
        for (int k = 0; k < calls.size(); k++) {
            CHECK.outcome("line " + (k + 1) + ": " + calls.get(k), due.get(k), k < got.length ? got[k] : "nothing");
        }
        CHECK.is("lines with an answer", calls.size(), () -> got.length);
        CHECK.outcome("no method is left out", "[]", unnamedMethods(page).toString());
        CHECK.outcome("no test is left out", "[]", unnamedTests(page).toString());
        CHECK.finish("ReadmeTest");
    }

    private static List<String> blocks(String page, String language) {
        List<String> blocks = new ArrayList<>();
        Matcher matcher = Pattern.compile("(?ms)^```" + language + "\n(.*?)^```$").matcher(page);
        while (matcher.find()) {
            blocks.add(matcher.group(1));
        }
        return blocks;
    }

    /** Each line with an answer prints what it answers; the others stand as they are. */
    private static String linesProgram(List<String> blocks, List<String> calls, List<String> due) {
        StringBuilder program = new StringBuilder("public class Lines extends First {\n"
                + "    interface Call { Object answer(); }\n"
                + "    static void show(Call call) {\n"
                + "        try { System.out.println(call.answer()); }\n"
                + "        catch (RuntimeException thrown) { System.out.println(\"throws \" + thrown.getClass().getSimpleName()); }\n"
                + "    }\n"
                + "    public static void main(String[] args) {\n");
        for (String block : blocks) {
            for (String line : block.split("\n")) {
                Matcher matcher = ANSWERED.matcher(line);
                if (matcher.matches()) {
                    calls.add(matcher.group(1));
                    due.add(matcher.group(2));
                    program.append("show(() -> ").append(matcher.group(1)).append(");\n");
                } else {
                    CHECK.outcome("the form of the line " + line, "known", line.contains("//") ? "unknown" : "known");
                    program.append(line).append('\n');
                }
            }
        }
        return program.append("    }\n}\n").toString();
    }

    private static TreeSet<String> unnamedMethods(String page) {
        TreeSet<String> names = new TreeSet<>();
        for (Method method : SalaryCapLedger.class.getMethods()) {
            boolean named = page.contains("`" + method.getName() + "(") || page.contains("ledger." + method.getName() + "(");
            if (method.getDeclaringClass() == SalaryCapLedger.class && !named) {
                names.add(method.getName());
            }
        }
        return names;
    }

    private static TreeSet<String> unnamedTests(String page) {
        TreeSet<String> names = new TreeSet<>();
        for (File file : TESTS.toFile().listFiles()) {
            String name = file.getName().replace(".java", "");
            if (name.endsWith("Test") && !page.contains("| `" + name + "` |")) {
                names.add(name);
            }
        }
        return names;
    }

    private static String run(String... command) throws IOException, InterruptedException {
        Process process = new ProcessBuilder(command).redirectErrorStream(true).start();
        String printed = new String(process.getInputStream().readAllBytes(), StandardCharsets.UTF_8);
        int code = process.waitFor();
        CHECK.outcome(command[0] + " ends with " + code + " and " + (code == 0 ? "" : printed), "0", String.valueOf(code));
        return printed;
    }
}
