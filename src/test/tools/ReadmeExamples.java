import java.io.IOException;
import java.nio.file.Files;
import java.nio.file.Path;
import java.util.regex.Matcher;
import java.util.regex.Pattern;

/**
 * Writes the examples of README.md as a test. A block of Java code becomes a method of the test, and one that starts
 * with 'static' a member. The comment behind a call begins with the answer that is due, up to a colon, or with 'throws'
 * and the exception; a call of the tea house without one is an error. Arguments: the page, the folder to write to.
 */
public final class ReadmeExamples {
    private static final String FENCE = "```";
    private static final String TEST = "ReadmeExamplesTest";
    private static final Pattern CALL = Pattern.compile("(\\w+\\.?\\w*\\(.*\\));\\s*// (.+?)(: .*)?");

    private final StringBuilder members = new StringBuilder();
    private final StringBuilder calls = new StringBuilder();
    private int examples = 0;
    private int answers = 0;

    public static void main(String[] args) throws IOException {
        ReadmeExamples page = new ReadmeExamples();
        page.read(Files.readString(Path.of(args[0])).split("\n"));
        if (page.answers == 0) {
            throw new IllegalStateException(args[0] + " has no examples");
        }
        Files.writeString(Path.of(args[1]).resolve(TEST + ".java"), page.test());
    }

    private void read(String[] lines) {
        for (int i = 0; i < lines.length; i++) {
            if (lines[i].equals(FENCE + "java")) {
                int start = i + 1;
                while (!lines[i + 1].equals(FENCE)) {
                    i++;
                }
                addBlock(lines, start, i + 1);
            }
        }
    }

    private void addBlock(String[] lines, int start, int end) {
        boolean isMember = lines[start].startsWith("static ");
        if (!isMember) {
            examples++;
            calls.append("        example").append(examples).append("();\n");
            members.append("    private static void example").append(examples).append("() {\n");
        }
        for (int i = start; i < end; i++) {
            members.append("        ").append(isMember ? lines[i] : checked(lines[i].trim(), i + 1)).append('\n');
        }
        if (!isMember) {
            members.append("    }\n");
        }
    }

    private String checked(String line, int number) {
        Matcher call = CALL.matcher(line);
        if (call.matches()) {
            answers++;
            String what = "README.md, line " + number + ": " + call.group(1);
            return "expect(" + quoted(what) + ", () -> " + call.group(1) + ", " + quoted(call.group(2)) + ");";
        }
        if (line.contains("house.")) {
            throw new IllegalStateException("README.md, line " + number + " has no answer: " + line);
        }
        return line;
    }

    private static String quoted(String text) {
        return '"' + text.replace("\\", "\\\\").replace("\"", "\\\"") + '"';
    }

    private String test() {
        StringBuilder text = new StringBuilder();
        text.append("import java.util.function.Supplier;\n\n");
        text.append("public final class ").append(TEST).append(" {\n");
        text.append("    public static void main(String[] args) {\n").append(calls);
        text.append("        Expect.end();\n    }\n");
        text.append("    private static void expect(String what, Supplier<Object> call, String due) {\n");
        text.append("        String got = Probe.answer(call);\n");
        text.append("        Expect.same(what, got.endsWith(\"Exception\") ? \"throws \" + got : got, due);\n    }\n");
        return text.append(members).append("}\n").toString();
    }
}
