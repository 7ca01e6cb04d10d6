import java.io.ByteArrayOutputStream;
import java.io.IOException;
import java.net.URL;
import java.net.URLClassLoader;
import java.nio.charset.StandardCharsets;
import java.nio.file.Files;
import java.nio.file.Path;
import java.util.Comparator;
import java.util.HashMap;
import java.util.Map;
import java.util.stream.Stream;
import javax.tools.JavaCompiler;
import javax.tools.ToolProvider;

/**
 * Breaks the class on purpose, to show what no answer of the unbroken class can show. As long as the class keeps its
 * promises, isBalanced answers true, whether it checks anything or not: so there is a broken version for each check,
 * which isBalanced must find out. And where the document wants a number in two ways, breaking one of them must leave
 * the other as it is.
 */
public final class BrokenVersionsTest {
    private static final Path SOURCE = Path.of("src/main/java/TeaHouse.java");
    private static final JavaCompiler COMPILER = ToolProvider.getSystemJavaCompiler();
    /**
     * A life that shows every break: the first kettle boils at level 5, the two next ones are equal, the last has a
     * level and a temperature of its own; three nights are in the ledger and three orders wait.
     */
    private static final String[] LIFE = {
        "kettle 16;kettle 16;kettle 16;kettle 16", "fill 0 16;fill 1 8;fill 2 8;fill 3 4",
        "burner 0 5;burner 1 1;burner 2 1;burner 3 2;minutes 14", "order 1 2 60 5;serve;steam 3;close",
        "order 2 1 60 9;serve;close;steam 2;close;steam 1", "order 3 1 70 5;order 4 2 70 5;order 5 3 70 4",
    };

    private final String source;
    private final Path folder;
    private final Map<String, Path> versions = new HashMap<>();

    private BrokenVersionsTest(String source, Path folder) {
        this.source = source;
        this.folder = folder;
    }

    public static void main(String[] args) throws Exception {
        Path folder = Files.createTempDirectory("broken-tea-houses");
        try {
            BrokenVersionsTest test = new BrokenVersionsTest(Files.readString(SOURCE), folder);
            Expect.same("isBalanced of the class as it is", test.answer(test.source, "isBalanced"), "true");
            test.breakVolumes();
            test.breakIncomes();
            test.breakOrders();
            test.breakKettles();
            test.breakOneOfTwoWays();
        } finally {
            delete(folder);
        }
        Expect.end();
    }

    private void breakVolumes() throws Exception {
        expectFound("filled water is counted short", "filled += second * EIGHTHS_PER_QUARTER;", "filled += second;");
        expectFound("poured water is counted short", "poured += cups * EIGHTHS_PER_CUP;", "poured += cups;");
        expectFound("boiled water is counted twice", "boiled += vapour;", "boiled += 2 * vapour;");
        expectFound("a kettle loses water", "volumes[kettle] -= vapour;",
                "volumes[kettle] -= vapour == 5 ? 6 : vapour;");
        expectFound("more steam is collected than boiled", "steam += vapour;", "steam += 2 * vapour;");
    }

    private void breakIncomes() throws Exception {
        expectFound("cups are not counted as sales", "fromCups += price;", "");
        expectFound("steam is not counted as a sale", "fromSteam += price;", "");
        String sums = "sums[count + 1] = sums[count] + closed;";
        expectFound("the sums leave out a night", sums, sums.replace("closed", "(count == 1 ? 0 : closed)"));
        String greatest = "int greatestByDifferences(int nights) {\n            int greatest = 0;";
        for (int wrong = 1; wrong <= 3; wrong++) {
            expectFound("the greatest of " + wrong + " by sums differs", greatest,
                    greatest.replace("0", "nights == " + wrong + " ? 1000000 : 0"));
        }
    }

    private void breakOrders() throws Exception {
        String found = "if (numbers[position] == number) {\n                    return position;";
        for (int wrong = 0; wrong < 3; wrong++) {
            String other = "position == " + wrong + " ? " + (wrong + 1) % 3 + " : position";
            expectFound("positionOf the order at " + wrong, found, found.replace("return position", "return " + other));
        }
        String asked = "position < count ? numbers[position] : NONE;";
        expectFound("orderAt the last position", asked, asked.replace("count", "count - 1"));
    }

    private void breakKettles() throws Exception {
        expectFound("equal kettles have the same rank", "return kettle < other;", "return false;");
        String ranked = "if (rankOf(kettle) == rank) {\n                    return kettle;";
        String rank = "rankOf(kettle) == rank";
        expectFound("the first kettle has every rank", ranked, ranked.replace(rank, "kettle == 0"));
        expectFound("the last kettle has every rank", ranked, ranked.replace(rank, "kettle == count - 1"));
        expectFound("no kettle has the first rank", ranked, ranked.replace(rank, rank + " && rank > 0"));
        expectFound("no kettle has the last rank", ranked, ranked.replace(rank, rank + " && rank < count - 1"));
        String fraction = "int fraction = (count - (1 << power)) << (23 - power);";
        expectFound("the bits of the first kettle", fraction,
                fraction.replace("count -", "(count == 200 ? 1 : 0) + count -"));
        expectFound("the bits of the last kettle", fraction,
                fraction.replace("count -", "(count == 110 ? 1 : 0) + count -"));
        String missing = "int missing = HOTTEST - temperatures[kettle];";
        expectFound("the minutes of the first kettle", missing,
                missing.replace(";", " + (levels[kettle] == 5 ? 99 : 0);"));
        expectFound("the minutes of the last kettle", missing,
                missing.replace(";", " + (levels[kettle] == 2 ? 99 : 0);"));
    }

    /** Promises 22 and 23, 44 and 45, 46 and 47. */
    private void breakOneOfTwoWays() throws Exception {
        String missing = "int missing = HOTTEST - temperatures[kettle];";
        expectApart(missing, missing.replace(";", " + 9;"), "minutesUntilBoiling 1", "minutesUntilBoilingByMinutes 1");
        String heated = "temperatures[kettle] + rise(kettle)";
        String faster = "(levels[kettle] == 1 && temperatures[kettle] > 150 ? 9 : rise(kettle))";
        expectApart(heated, heated.replace("rise(kettle)", faster), "minutesUntilBoilingByMinutes 1",
                "minutesUntilBoiling 1");
        String sums = "sums[count + 1] = sums[count] + closed;";
        expectApart(sums, sums.replace("closed", "closed + 9"), "greatestIncomeBySums 2", "greatestIncome 2");
        String incomes = "incomes[count] = closed;";
        expectApart(incomes, incomes.replace("closed", "closed + 9"), "greatestIncome 2", "greatestIncomeBySums 2");
        expectApart(incomes, incomes.replace("closed", "closed + 9"), "totalIncome", "totalIncomeBySales");
        expectApart("fromCups += price;", "", "totalIncomeBySales", "totalIncome");
        expectApart("fromSteam += price;", "", "totalIncomeBySales", "totalIncome");
    }

    private void expectFound(String what, String right, String broken) throws Exception {
        if (standsOnce(right)) {
            Expect.same(what + ": isBalanced", answer(source.replace(right, broken), "isBalanced"), "false");
        }
    }

    private void expectApart(String right, String broken, String changed, String kept) throws Exception {
        if (standsOnce(right)) {
            String version = source.replace(right, broken);
            Expect.no("'" + broken + "' changes " + changed, answer(version, changed).equals(answer(source, changed)));
            Expect.same("'" + broken + "' keeps " + kept, answer(version, kept), answer(source, kept));
        }
    }

    private boolean standsOnce(String text) {
        int at = source.indexOf(text);
        boolean isOnce = at >= 0 && source.indexOf(text, at + 1) < 0;
        Expect.yes("'" + text + "' stands in the class once (if the class has changed, this test must follow)", isOnce);
        return isOnce;
    }

    /** What a version of the class answers to a call after that life; the call is a name and at most one number. */
    private String answer(String version, String call) throws Exception {
        Path classes = compiled(version);
        try (URLClassLoader loader = new URLClassLoader(new URL[] {classes.toUri().toURL()}, null)) {
            Class<?> type = loader.loadClass("TeaHouse");
            Object house = type.getConstructor().newInstance();
            for (String program : LIFE) {
                for (char character : program.toCharArray()) {
                    type.getMethod("append", char.class).invoke(house, character);
                }
                type.getMethod("run").invoke(house);
            }
            String[] words = call.split(" ");
            if (words.length == 1) {
                return String.valueOf(type.getMethod(words[0]).invoke(house));
            }
            return String.valueOf(type.getMethod(words[0], int.class).invoke(house, Integer.parseInt(words[1])));
        }
    }

    private Path compiled(String version) throws IOException {
        Path classes = versions.get(version);
        if (classes == null) {
            classes = Files.createDirectory(folder.resolve("version" + versions.size()));
            versions.put(version, classes);
            Path file = classes.resolve("TeaHouse.java");
            Files.writeString(file, version);
            ByteArrayOutputStream messages = new ByteArrayOutputStream();
            int result = COMPILER.run(null, messages, messages, "-d", classes.toString(), file.toString());
            Expect.same("compiling: " + messages.toString(StandardCharsets.UTF_8), result, 0);
        }
        return classes;
    }

    private static void delete(Path folder) throws IOException {
        try (Stream<Path> files = Files.walk(folder)) {
            for (Path file : files.sorted(Comparator.reverseOrder()).toList()) {
                Files.delete(file);
            }
        }
    }
}
