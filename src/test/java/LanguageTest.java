import java.io.IOException;
import java.lang.reflect.Field;
import java.lang.reflect.Method;
import java.lang.reflect.Modifier;
import java.nio.file.Files;
import java.nio.file.Path;
import java.util.List;
import java.util.Set;
import java.util.TreeSet;

/** The rules of LANGUAGE.md that can be seen from single words of the source and from the compiled class. */
public final class LanguageTest {
    private static final Path SOURCE = Path.of("src/main/java/TeaHouse.java");
    private static final String[] FORBIDDEN = {"->", "::", "\\bfinally\\b",
        "\\bsynchronized\\b", "\\bassert\\b", "\\bpackage\\b", "\\bsealed\\b", "\\byield\\b", "\\bvar\\b",
        "\\bFloat\\.", "\\bDouble\\.", "\\bMath\\.\\w+Exact\\b", "\\bSystem\\.(?!arraycopy)",
        "\\bequals\\s*\\(\\s*Object", "\\bhashCode\\b", "String\\s+toString\\b", "\\bprotected\\b",
        "\"\\s*\\+", "\\+\\s*\"", "\\bstatic\\s*\\{", "\\.ordinal\\(", "\\.name\\("};

    public static void main(String[] args) throws IOException {
        String source = Files.readString(SOURCE);
        String code = source.replaceAll("(?s)/\\*.*?\\*/", " ").replaceAll("//[^\n]*", " ");
        testWords(code);
        testImports(code);
        testSigns(source);
        testClasses();
        testNamesOfPrivateMethods();
        Expect.end();
    }

    private static void testWords(String code) {
        for (String forbidden : FORBIDDEN) {
            Expect.no("the source has " + forbidden, java.util.regex.Pattern.compile(forbidden).matcher(code).find());
        }
    }

    private static void testImports(String code) {
        long imports = code.lines().filter(l -> l.startsWith("import ")).count();
        Expect.same("imports", imports, 1);
        Expect.yes("the import of the document", code.contains("import java.util.NoSuchElementException;"));
    }

    private static void testSigns(String source) {
        Expect.yes("all signs are from 1 to 127", source.chars().allMatch(c -> c >= 1 && c <= 127));
    }

    private static void testClasses() {
        Class<?>[] classes = TeaHouse.class.getDeclaredClasses();
        Expect.yes("at most twelve classes", classes.length + 1 <= 12);
        expectFewFields(TeaHouse.class);
        for (Class<?> inside : classes) {
            int modifiers = inside.getModifiers();
            Expect.yes(inside + " is static", Modifier.isStatic(modifiers));
            Expect.no(inside + " is public", Modifier.isPublic(modifiers) || Modifier.isProtected(modifiers));
            expectFewFields(inside);
        }
    }

    private static void expectFewFields(Class<?> type) {
        int fields = 0;
        for (Field field : type.getDeclaredFields()) {
            if (Modifier.isStatic(field.getModifiers())) {
                Expect.yes(field + " is final", Modifier.isFinal(field.getModifiers()));
            } else {
                fields++;
            }
        }
        Expect.yes(type + " has at most twenty fields", fields <= 20);
        for (Method method : type.getDeclaredMethods()) {
            Expect.yes(method + " has at most seven parameters", method.getParameterCount() <= 7);
        }
    }

    private static void testNamesOfPrivateMethods() {
        Set<String> face = new TreeSet<>();
        for (Method method : TeaHouse.class.getDeclaredMethods()) {
            if (Modifier.isPublic(method.getModifiers())) {
                Expect.yes(method.getName() + " is the only one of its name", face.add(method.getName()));
            }
        }
        for (Class<?> type : List.of(TeaHouse.class.getDeclaredClasses())) {
            for (Method method : type.getDeclaredMethods()) {
                Expect.no(method + " bears a name of the face", face.contains(method.getName()));
            }
        }
        for (Method method : TeaHouse.class.getDeclaredMethods()) {
            boolean isPublic = Modifier.isPublic(method.getModifiers());
            Expect.no(method + " bears a name of the face", !isPublic && face.contains(method.getName()));
        }
    }
}
