import java.io.IOException;
import java.lang.reflect.Field;
import java.lang.reflect.Method;
import java.lang.reflect.Modifier;
import java.nio.file.Files;
import java.nio.file.Path;
import java.util.List;
import java.util.Set;
import java.util.TreeSet;
import java.util.regex.Matcher;
import java.util.regex.Pattern;

/** The rules of LANGUAGE.md that can be seen from the words of the source, by reflection and in the class files. */
public final class LanguageTest {
    private static final Path SOURCE = Path.of("src/main/java/TeaHouse.java");
    private static final String[] FORBIDDEN = {"->", "::", "\\bfinally\\b",
        "\\bsynchronized\\b", "\\bassert\\b", "\\bpackage\\b", "\\bsealed\\b", "\\byield\\b", "\\bvar\\b",
        "\\bFloat\\.", "\\bDouble\\.", "\\bMath\\.\\w+Exact\\b", "\\bSystem\\.(?!arraycopy)",
        "\\bequals\\s*\\(\\s*Object", "\\bhashCode\\b", "String\\s+toString\\b", "\\bprotected\\b",
        "\"\\s*\\+", "\\+\\s*\"", "\\bstatic\\s*\\{", "\\.ordinal\\(", "\\.name\\(", "\\btry\\b", "\\bcatch\\b"};
    private static final Pattern THROW = Pattern.compile("\\bthrow\\b(?! new (?:IllegalState|IllegalArgument|"
            + "IndexOutOfBounds|Arithmetic|NoSuchElement)Exception\\(\"[^\"]+\"\\);)");
    private static final Pattern METHOD = Pattern.compile("(?m)^( {4}| {8})(?![ }])[^=\n]*\\)[^;\n]*\\{$");
    private static final int MOST_LINES = 60;
    /** What rule 4 lists and the class uses, and what the compiler itself adds for enums and for switch. */
    private static final Set<String> LIBRARY = Set.of("java/lang/Object.<init>", "java/lang/String.length",
            "java/lang/String.charAt", "java/lang/StringBuilder.<init>", "java/lang/StringBuilder.append",
            "java/lang/StringBuilder.charAt", "java/lang/StringBuilder.setLength", "java/lang/StringBuilder.length",
            "java/lang/Math.min", "java/lang/Math.max", "java/lang/Enum.<init>", "java/lang/Enum.valueOf",
            "java/lang/IllegalStateException.<init>", "java/lang/IllegalArgumentException.<init>",
            "java/lang/IndexOutOfBoundsException.<init>", "java/lang/ArithmeticException.<init>",
            "java/util/NoSuchElementException.<init>");

    public static void main(String[] args) throws IOException {
        String source = Files.readString(SOURCE);
        String code = source.replaceAll("(?s)/\\*.*?\\*/", " ").replaceAll("//[^\n]*", " ");
        testWords(code);
        testImports(code);
        testSigns(source);
        testClasses();
        testNamesOfPrivateMethods();
        testThrows(code);
        testLengths(source);
        testLibrary();
        Expect.end();
    }

    private static void testWords(String code) {
        for (String forbidden : FORBIDDEN) {
            Expect.no("the source has " + forbidden, Pattern.compile(forbidden).matcher(code).find());
        }
    }

    private static void testImports(String code) {
        long imports = code.lines().filter(l -> l.startsWith("import ")).count();
        Expect.same("imports", imports, 1);
        Expect.yes("the import of the document", code.contains("import java.util.NoSuchElementException;"));
    }

    private static void testSigns(String source) {
        Expect.yes("all signs are from 1 to 127", source.chars().allMatch(c -> c >= 1 && c <= 127));
    }

    private static void testClasses() {
        Class<?>[] classes = TeaHouse.class.getDeclaredClasses();
        Expect.yes("at most twelve classes", classes.length + 1 <= 12);
        expectFewFields(TeaHouse.class);
        for (Class<?> inside : classes) {
            int modifiers = inside.getModifiers();
            Expect.yes(inside + " is static", Modifier.isStatic(modifiers));
            Expect.no(inside + " is public", Modifier.isPublic(modifiers) || Modifier.isProtected(modifiers));
            expectFewFields(inside);
        }
    }

    private static void expectFewFields(Class<?> type) {
        int fields = 0;
        for (Field field : type.getDeclaredFields()) {
            if (Modifier.isStatic(field.getModifiers())) {
                Expect.yes(field + " is final", Modifier.isFinal(field.getModifiers()));
            } else {
                fields++;
            }
        }
        Expect.yes(type + " has at most twenty fields", fields <= 20);
        for (Method method : type.getDeclaredMethods()) {
            Expect.yes(method + " has at most seven parameters", method.getParameterCount() <= 7);
        }
    }

    private static void testNamesOfPrivateMethods() {
        Set<String> face = new TreeSet<>();
        for (Method method : TeaHouse.class.getDeclaredMethods()) {
            if (Modifier.isPublic(method.getModifiers())) {
                Expect.yes(method.getName() + " is the only one of its name", face.add(method.getName()));
            }
        }
        for (Class<?> type : List.of(TeaHouse.class.getDeclaredClasses())) {
            for (Method method : type.getDeclaredMethods()) {
                Expect.no(method + " bears a name of the face", face.contains(method.getName()));
            }
        }
        for (Method method : TeaHouse.class.getDeclaredMethods()) {
            boolean isPublic = Modifier.isPublic(method.getModifiers());
            Expect.no(method + " bears a name of the face", !isPublic && face.contains(method.getName()));
        }
    }

    private static void testThrows(String code) {
        Matcher wrong = THROW.matcher(code);
        Expect.no("a throw is not of the form that rule 6 wants", wrong.find());
    }

    private static void testLengths(String source) {
        int methods = 0;
        Matcher method = METHOD.matcher(source);
        while (method.find()) {
            int end = source.indexOf("\n" + method.group(1) + "}", method.end());
            long lines = source.substring(method.start(), end).lines().count() + 1;
            Expect.yes(method.group().trim() + " has " + lines + " lines", lines <= MOST_LINES);
            methods++;
        }
        Expect.yes("more methods than the face has", methods > 62);
    }

    /** Where calls are counted, the class of the project goes by another name. */
    private static void testLibrary() throws IOException {
        Path folder = Path.of(TeaHouse.class.getProtectionDomain().getCodeSource().getLocation().getPath());
        String name = Files.exists(folder.resolve("InsideHouse.class")) ? "InsideHouse" : "TeaHouse";
        Set<String> used = new TreeSet<>();
        try (var files = Files.newDirectoryStream(folder, name + "{,$?*}.class")) {
            for (Path file : files) {
                // The compiler's own class for switch.
                if (!file.getFileName().toString().equals(name + "$1.class")) {
                    used.addAll(new ClassFile(file).uses());
                }
            }
        }
        used.removeIf(use -> use.startsWith(name) || use.startsWith("[L" + name));
        Expect.yes("the class uses the library", used.size() > 10);
        used.removeAll(LIBRARY);
        Expect.same("used, but not listed", String.join(", ", used), "");
    }
}
