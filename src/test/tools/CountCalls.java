import java.io.IOException;
import java.lang.reflect.Method;
import java.lang.reflect.Modifier;
import java.nio.file.Files;
import java.nio.file.Path;

/**
 * Writes a TeaHouse that counts the calls of each object and passes them on to the class of the project, under the
 * name InsideHouse. The document leaves free what an object answers after 512 calls, so a test that asks more of one
 * object holds the class to something that it need not do. Arguments: the source of the class, the folder to write to.
 */
public final class CountCalls {
    private static final int MOST_CALLS = 512;

    public static void main(String[] args) throws IOException {
        Path source = Path.of(args[0]);
        Path folder = Path.of(args[1]);
        String inside = Files.readString(source).replaceAll("\\bTeaHouse\\b", "InsideHouse");
        Files.writeString(folder.resolve("InsideHouse.java"), inside);
        Files.writeString(folder.resolve("TeaHouse.java"), countingHouse());
    }

    private static String countingHouse() {
        StringBuilder text = new StringBuilder();
        text.append("public final class TeaHouse {\n");
        text.append("    private final InsideHouse inside = new InsideHouse();\n");
        text.append("    private int calls = 0;\n");
        text.append("    public TeaHouse() {\n    }\n");
        for (Method method : TeaHouse.class.getDeclaredMethods()) {
            if (Modifier.isPublic(method.getModifiers())) {
                appendMethod(text, method);
            }
        }
        text.append("    private void count() {\n        calls++;\n        if (calls > ").append(MOST_CALLS);
        text.append(") {\n            System.out.println(\"a test makes call \" + calls + \" of one object\");\n");
        text.append("            new Throwable().printStackTrace(System.out);\n            System.exit(1);\n");
        text.append("        }\n    }\n}\n");
        return text.toString();
    }

    private static void appendMethod(StringBuilder text, Method method) {
        StringBuilder parameters = new StringBuilder();
        StringBuilder arguments = new StringBuilder();
        for (Class<?> type : method.getParameterTypes()) {
            String separator = parameters.length() > 0 ? ", " : "";
            String name = "argument" + parameters.length();
            parameters.append(separator).append(type.getName()).append(' ').append(name);
            arguments.append(separator).append(name);
        }
        String thrown = "";
        for (Class<?> type : method.getExceptionTypes()) {
            thrown += (thrown.isEmpty() ? " throws " : ", ") + type.getName();
        }
        text.append("    public ").append(method.getReturnType().getName()).append(' ').append(method.getName());
        text.append('(').append(parameters).append(')').append(thrown).append(" {\n        count();\n");
        text.append("        return inside.").append(method.getName()).append('(').append(arguments);
        text.append(");\n    }\n");
    }
}
