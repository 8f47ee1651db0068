import java.io.IOException;
import java.lang.reflect.Member;
import java.lang.reflect.Method;
import java.lang.reflect.Modifier;
import java.nio.file.Files;
import java.nio.file.Path;
import java.util.ArrayList;
import java.util.Arrays;
import java.util.List;
import java.util.TreeSet;
import java.util.regex.Pattern;

/** The public face, and what of LANGUAGE.md can be seen from the class and its source. */
public final class FaceTest {
    private static final Check CHECK = new Check();
    private static final Path DOCUMENT = Path.of("../shared/DOC.md");
    private static final Path SOURCE = Path.of("src/main/java/SalaryCapLedger.java");
    private static final String[] RULED_OUT = {
        "lambda ->", "->", "reference ::", "::", "finally", "synchronized", "assert ", "instanceof", "record ",
        "extends ", "System\\.out", "Math\\.\\w+Exact", "MAX_VALUE", "MIN_VALUE", "hashCode", "equals\\(", "toString",
        "static \\{", "catch", "random", "Thread", "\" \\+", "\\+ \"", "package ", "import (?!java\\.util\\.NoSuchElementException;)"
    };

    public static void main(String[] args) throws IOException {
        face();
        members(SalaryCapLedger.class);
        source();
        CHECK.finish("FaceTest");
    }

    private static void face() throws IOException {
        List<String> due = new ArrayList<>();
        for (String line : Files.readAllLines(DOCUMENT)) {
            if (line.startsWith("    public ") && line.endsWith(";")) {
                due.add(line.strip());
            }
        }
        String text = Files.readString(SOURCE).replaceAll("\\s+", " ");
        CHECK.is("lines of the face", 41, () -> due.size());
        for (String line : due) {
            String written = line.contains("(") ? line.replaceAll(";$", " {") : line;
            CHECK.outcome(line, "there", text.contains(written) ? "there" : "missing");
        }
        long open = Arrays.stream(SalaryCapLedger.class.getDeclaredMethods())
                .filter(method -> Modifier.isPublic(method.getModifiers())).count();
        CHECK.is("public methods", 40 - 1, () -> open);
        CHECK.is("constructors", 1, () -> SalaryCapLedger.class.getDeclaredConstructors().length);
        CHECK.is("a final class", 1, () -> Modifier.isFinal(SalaryCapLedger.class.getModifiers()) ? 1 : 0);
    }

    private static void members(Class<?> face) {
        TreeSet<String> open = new TreeSet<>();
        for (Method method : face.getDeclaredMethods()) {
            if (Modifier.isPublic(method.getModifiers())) {
                open.add(method.getName());
            }
        }
        List<Member> members = new ArrayList<>(Arrays.asList(face.getDeclaredMethods()));
        members.addAll(Arrays.asList(face.getDeclaredFields()));
        for (Member member : members) {
            boolean hidden = Modifier.isPrivate(member.getModifiers());
            boolean own = open.contains(member.getName()) || member.getName().equals("NONE");
            CHECK.outcome(member.toString(), own ? "public" : "private", hidden ? "private" : "public");
        }
        for (Class<?> inside : face.getDeclaredClasses()) {
            CHECK.outcome(inside.getName(), "static", Modifier.isStatic(inside.getModifiers()) ? "static" : "inner");
            for (Method method : inside.getDeclaredMethods()) {
                CHECK.outcome(method.toString(), "own name", open.contains(method.getName()) ? "taken" : "own name");
            }
        }
    }

    private static void source() throws IOException {
        String code = Files.readString(SOURCE).replaceAll("(?s)/\\*.*?\\*/", "").replaceAll("//[^\n]*", "");
        for (String form : RULED_OUT) {
            CHECK.outcome("the form " + form, "absent", Pattern.compile(form).matcher(code).find() ? "present" : "absent");
        }
        int line = 0;
        int start = 0;
        for (String text : Files.readAllLines(SOURCE)) {
            line++;
            if (text.matches("    (    )?[\\w@].*") && text.endsWith("{")) {
                start = line;
            }
            int length = line - start;
            CHECK.outcome("the method at line " + start, "short", text.matches("    (    )?}") && start > 0 && length > 60
                    && !Files.readAllLines(SOURCE).get(start - 1).contains("class") ? "long" : "short");
        }
    }
}
