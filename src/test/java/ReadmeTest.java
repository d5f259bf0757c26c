import java.io.IOException;
import java.lang.reflect.InvocationTargetException;
import java.lang.reflect.Method;
import java.lang.reflect.Modifier;
import java.nio.file.Files;
import java.nio.file.Path;
import java.util.HashMap;
import java.util.List;
import java.util.Map;
import java.util.Set;
import java.util.TreeSet;
import java.util.regex.Matcher;
import java.util.regex.Pattern;
import java.util.stream.Collectors;
import java.util.stream.Stream;

/**
 * README.md says what holds: its calls are made, one after another, and answer as it says; its table of statements is
 * the class's; it shows each call of the face and each exception of it, and names each test of the project.
 */
public final class ReadmeTest {
    private static final Check CHECK = new Check("ReadmeTest");
    private static final Pattern NEW_OBJECT = Pattern.compile("ReactionDesk (\\w+) = new ReactionDesk\\(\\);");
    /** A call, and a comment that begins with its answer. */
    private static final Pattern CALL = Pattern.compile(
        "(\\w+)\\.(\\w+)\\(([^()]*)\\); +// (throws \\w+|-?\\w+)(?:: .*)?");
    private static final Pattern STATEMENT = Pattern.compile(
        "\\| (\\d+) \\| [A-Z]+ \\| (-?\\d+)(?: \\.\\. (-?\\d+))? \\| (\\d) \\|.*");

    private final Map<String, ReactionDesk> objects = new HashMap<>();
    private final Set<String> shown = new TreeSet<>();

    public static void main(String[] args) throws IOException {
        List<String> lines = Files.readAllLines(Path.of("README.md"));
        ReadmeTest test = new ReadmeTest();
        test.makeCalls(lines);
        test.showsTheFace();
        statements(lines);
        namesTheTests(String.join("\n", lines));
        CHECK.end();
    }

    private void makeCalls(List<String> lines) {
        boolean inJava = false;
        for (int i = 0; i < lines.size(); i++) {
            String line = lines.get(i);
            if (line.startsWith("```")) {
                inJava = line.equals("```java");
            } else if (inJava && !line.isBlank()) {
                makeCall("line " + (i + 1) + ", " + line, line);
            }
        }
    }

    private void makeCall(String here, String line) {
        Matcher made = NEW_OBJECT.matcher(line);
        if (made.matches()) {
            objects.put(made.group(1), new ReactionDesk());
            return;
        }
        Matcher call = CALL.matcher(line);
        boolean isCall = call.matches() && objects.containsKey(call.group(1));
        CHECK.same(here + ", is a call of an object with its answer", isCall, true);
        if (isCall) {
            String got = answer(objects.get(call.group(1)), call.group(2), numbers(call.group(3)));
            CHECK.same(here, got, due(call.group(4)));
            shown.add(call.group(2) + (got.startsWith("throws ") ? " " + got : " answers"));
        }
    }

    private static Object[] numbers(String list) {
        return list.isBlank() ? new Object[0] : Stream.of(list.split(", ")).map(ReadmeTest::number).toArray();
    }

    private static int number(String text) {
        return text.startsWith("0b") ? Integer.parseInt(text.substring(2), 2) : Integer.decode(text);
    }

    private static String due(String text) {
        boolean isNumber = text.matches("-?\\d.*");
        return isNumber ? String.valueOf(number(text)) : text;
    }

    private static String answer(ReactionDesk desk, String name, Object[] numbers) {
        try {
            for (Method method : ReactionDesk.class.getMethods()) {
                if (method.getName().equals(name) && method.getParameterCount() == numbers.length) {
                    return String.valueOf(method.invoke(desk, numbers));
                }
            }
        } catch (InvocationTargetException e) {
            return "throws " + e.getCause().getClass().getSimpleName();
        } catch (IllegalAccessException e) {
            return "can't be called";
        }
        return "no such call";
    }

    private void showsTheFace() {
        for (Method method : ReactionDesk.class.getDeclaredMethods()) {
            if (Modifier.isPublic(method.getModifiers())) {
                String name = method.getName();
                CHECK.same(name + " is shown", shown.contains(name + " answers"), true);
                for (Class<?> thrown : method.getExceptionTypes()) {
                    String words = name + " throws " + thrown.getSimpleName();
                    CHECK.same(words + " is shown", shown.contains(words), true);
                }
            }
        }
    }

    private static void statements(List<String> lines) {
        int next = 0;
        for (String line : lines) {
            Matcher row = STATEMENT.matcher(line);
            if (row.matches()) {
                CHECK.same("sort of " + line, number(row.group(1)), next);
                int least = number(row.group(2));
                int most = row.group(3) == null ? least : number(row.group(3));
                statement(next, least, most, number(row.group(4)));
                next++;
            }
        }
        CHECK.same("statements", next, 11);
        ReactionDesk desk = new ReactionDesk();
        int after = next;
        CHECK.refuses("put(" + after + ", 0)", IllegalArgumentException.class, desk, () -> desk.put(after, 0));
    }

    private static void statement(int sort, int least, int most, int parts) {
        // A sixth trap would be too much, and only within five all exits are right.
        int traps = sort == Told.EXIT ? 5 : 0;
        for (int x = least - 1; x <= most + 1; x++) {
            int operand = x;
            String what = "put(" + sort + ", " + x + ")";
            ReactionDesk desk = Told.told("par " + "trap ".repeat(traps));
            if (x < least || x > most) {
                CHECK.refuses(what, IllegalArgumentException.class, desk, () -> desk.put(sort, operand));
            } else {
                CHECK.same(what, desk.put(sort, x), 1 + parts);
            }
        }
    }

    private static void namesTheTests(String text) throws IOException {
        CHECK.same("how to run the tests", text.contains("\n    bash .ci/run\n"), true);
        try (Stream<Path> files = Files.list(Path.of("src/test/java"))) {
            for (Path file : files.collect(Collectors.toList())) {
                String name = file.getFileName().toString().replace(".java", "");
                if (name.endsWith("Test")) {
                    CHECK.same(name + " is named", text.contains("`" + name + "`"), true);
                }
            }
        }
    }
}
