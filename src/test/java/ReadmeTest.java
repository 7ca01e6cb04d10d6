import java.io.IOException;
import java.lang.reflect.Method;
import java.lang.reflect.Modifier;
import java.nio.file.Files;
import java.nio.file.Path;
import java.util.Arrays;
import java.util.Set;
import java.util.TreeSet;
import java.util.function.Consumer;
import java.util.regex.Matcher;
import java.util.regex.Pattern;

/** Compares the tables of README.md with the class and with the tests; its examples are a test of their own. */
public final class ReadmeTest {
    private static final Path PAGE = Path.of("README.md");
    private static final Path TESTS = Path.of("src/test/java");
    private static final Pattern EXCEPTION_ROW = Pattern.compile("\\| `(\\w+Exception)` \\| [^|]+ \\| ([^|]+) \\|");
    private static final Pattern COMMAND_ROW = Pattern.compile("\\| `([a-z]+[0-9 ]*)` \\| `(\\w+)\\(([^)]*)\\)` \\|");
    private static final Pattern TEST_NAME = Pattern.compile("`(\\w+Test)`");

    public static void main(String[] args) throws IOException {
        String page = Files.readString(PAGE);
        testEveryMethodIsNamed(page);
        testExceptions(page);
        testCommands(page);
        testNamesOfTests(page);
        Expect.end();
    }

    private static Set<Method> face() {
        Set<Method> face = new TreeSet<>((one, other) -> one.getName().compareTo(other.getName()));
        for (Method method : TeaHouse.class.getDeclaredMethods()) {
            if (Modifier.isPublic(method.getModifiers())) {
                face.add(method);
            }
        }
        return face;
    }

    private static void testEveryMethodIsNamed(String page) {
        for (Method method : face()) {
            Pattern call = Pattern.compile("`" + method.getName() + "\\((\\w*(?:, \\w+)*)\\)`");
            Matcher named = call.matcher(page);
            if (!named.find()) {
                Expect.yes("the page names " + method.getName(), false);
                continue;
            }
            int count = named.group(1).isEmpty() ? 0 : named.group(1).split(", ").length;
            Expect.same("the arguments of " + method.getName(), count, method.getParameterCount());
        }
    }

    private static void testExceptions(String page) {
        Set<String> told = new TreeSet<>();
        Matcher row = EXCEPTION_ROW.matcher(page);
        while (row.find()) {
            for (String method : row.group(2).split(", ")) {
                Expect.yes("told once", told.add(method.replace("`", "") + " throws " + row.group(1)));
            }
        }
        Set<String> due = new TreeSet<>();
        for (Method method : face()) {
            for (Class<?> type : method.getExceptionTypes()) {
                due.add(method.getName() + " throws " + type.getSimpleName());
            }
        }
        Expect.same("the exceptions", String.join("\n", told), String.join("\n", due));
    }

    /** A tea house that every command of the table changes. */
    private static TeaHouse ready() {
        return Houses.after("kettle 16;fill 0 16;burner 0 5;minutes 13;burner 0 0",
                "order 1 1 60 1;order 2 2 60 9;serve;cup 9;litre 3");
    }

    private static void testCommands(String page) {
        int rows = 0;
        Matcher row = COMMAND_ROW.matcher(page);
        while (row.find()) {
            String command = row.group(1);
            String method = row.group(2);
            Object[] arguments = Arrays.stream(row.group(3).split(", ")).filter(text -> !text.isEmpty())
                    .map(ReadmeTest::value).toArray();
            expectTheSame(command, house -> Words.run(house, command), house -> call(house, method, arguments));
            rows++;
        }
        Expect.same("the commands of the table", rows, 14);
    }

    private static Object value(String text) {
        return text.matches("[0-9]+") ? (Object) Integer.valueOf(text) : Boolean.valueOf(text);
    }

    private static void call(TeaHouse house, String name, Object[] arguments) {
        for (Method method : face()) {
            if (method.getName().equals(name)) {
                try {
                    method.invoke(house, arguments);
                } catch (ReflectiveOperationException | IllegalArgumentException e) {
                    Expect.same(name, e.toString(), "no exception");
                }
                return;
            }
        }
        Expect.yes("there is a method " + name, false);
    }

    private static void expectTheSame(String command, Consumer<TeaHouse> run, Consumer<TeaHouse> call) {
        for (Probe probe : new Probe[] {Probe.FACE, Probe.LINES, Probe.NEXT_ORDER, Probe.ATTENDANT}) {
            TeaHouse commanded = ready();
            TeaHouse called = ready();
            run.accept(commanded);
            call.accept(called);
            Expect.same("'" + command + "', " + probe, probe.answers(commanded), probe.answers(called));
        }
    }

    private static void testNamesOfTests(String page) throws IOException {
        Set<String> told = new TreeSet<>();
        Matcher name = TEST_NAME.matcher(page.replace("`*Test`", ""));
        while (name.find()) {
            told.add(name.group(1));
        }
        Set<String> due = new TreeSet<>();
        try (var files = Files.newDirectoryStream(TESTS, "*Test.java")) {
            files.forEach(file -> due.add(file.getFileName().toString().replace(".java", "")));
        }
        Expect.same("the tests", String.join("\n", told), String.join("\n", due));
    }
}
