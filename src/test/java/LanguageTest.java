import java.io.IOException;
import java.lang.reflect.Array;
import java.lang.reflect.Constructor;
import java.lang.reflect.Field;
import java.lang.reflect.Method;
import java.lang.reflect.Modifier;
import java.nio.charset.StandardCharsets;
import java.nio.file.Files;
import java.nio.file.Path;
import java.util.ArrayList;
import java.util.IdentityHashMap;
import java.util.List;
import java.util.Map;
import java.util.Set;
import java.util.regex.Matcher;
import java.util.regex.Pattern;

/**
 * What a test can see of the rules of ../shared/LANGUAGE.md: in the text of the program, in its
 * compiled classes, and in the objects that a cube holds. Run from the root of the checkout.
 */
public final class LanguageTest {
    private static final Checks C = new Checks("LanguageTest");
    private static final Path PROGRAM = Path.of("src", "main", "java", "FaultyCube.java");

    /** What stands nowhere in the program, its comments and texts left out. */
    private static final String[] FORBIDDEN = {
        "->", "::", "\\bassert\\b", "\\bsynchronized\\b", "\\bfinally\\b", "\\bcatch\\b",
        "\\bpackage\\b", "Exact\\(", "static\\s*\\{", "\\bMath\\.random\\b",
        "\\bSystem\\.(?!arraycopy\\()", "\\bArrays\\.(?!fill\\(|copyOf\\(|copyOfRange\\()",
        "\\b(Object|Thread|Throwable|Error|Double|Float|Character)\\b", "\\bgetMessage\\b",
        "while \\(true\\)", "for \\(;;"
    };

    private static final Set<String> CONSTANT_TYPES = Set.of("int", "long", "boolean", "char",
            "String", "int[]", "long[]", "char[]", "byte[]");

    private static final String IMPORTED = "import java\\.util\\.(Arrays|ArrayList|List|Iterator);";

    private static final String THROWN = "throw new (IllegalStateException"
            + "|IllegalArgumentException)\\(\"[ -~]*\"\\);";

    public static void main(String[] args) throws IOException, IllegalAccessException {
        String text = Files.readString(PROGRAM, StandardCharsets.UTF_8);
        signs(text);
        words(withoutComments(text));
        thrown(withoutComments(text));
        newObjects(withoutComments(text));
        lengths(text.split("\n"));
        classes();
        objects();
        C.end();
    }

    private static String withoutComments(String text) {
        return text.replaceAll("(?s)/\\*.*?\\*/", "").replaceAll("//[^\n]*", "");
    }

    private static void signs(String text) {
        long strange = text.chars().filter(c -> c != '\n' && (c < 32 || c > 126)).count();
        C.due("signs beyond the plain ones", 0, () -> strange);
    }

    // Rules 1 to 7 and 13
    private static void words(String code) {
        String unquoted = code.replaceAll("\"[^\"]*\"", "\"\"");
        for (String word : FORBIDDEN) {
            Matcher m = Pattern.compile(word).matcher(unquoted);
            C.dueText("the program and " + word, "none", m.find() ? m.group() : "none");
        }
        for (String line : unquoted.split("\n")) {
            if (line.startsWith("import")) {
                C.dueText("an import", "of rule 4", line.matches(IMPORTED) ? "of rule 4" : line);
            }
        }
    }

    // Rule 6: "throw new E() or throw new E("a written text")"
    private static void thrown(String code) {
        for (String line : code.split("\n")) {
            if (line.contains("throw ")) {
                C.dueText("a throw", "as rule 6 asks",
                        line.trim().matches(THROWN) ? "as rule 6 asks" : line.trim());
            }
        }
    }

    // Rule 12: what is made is made with its owner, so that no call makes anything
    private static void newObjects(String code) {
        String method = "";
        for (String line : code.split("\n")) {
            if (line.matches("( {4}| {8})[A-Za-z][^=;]*\\([^;]*")) {
                method = line.trim();
            }
            boolean made = line.contains("new ") && !line.contains("throw new");
            boolean row = line.trim().startsWith("private final ");
            boolean inConstructor = method.matches("(public )?[A-Z][A-Za-z]*\\(.*");
            C.dueText("made by a call", "nothing",
                    made && !row && !inConstructor ? line.trim() : "nothing");
        }
    }

    // Rule 11: "Methods stay short (some sixty lines)"
    private static void lengths(String[] lines) {
        int start = 0;
        for (int i = 0; i < lines.length; i++) {
            if (lines[i].matches("( {4}| {8})[a-z@][^=;]*\\(.*")) {
                start = i;
            }
            if (lines[i].matches(" {4}}| {8}}")) {
                int length = i - start + 1;
                String name = lines[start].trim();
                C.dueText("the length of " + name, "short", length <= 60 || name.contains("class")
                        ? "short" : length + " lines");
            }
        }
    }

    // Rules 2, 3, 5, 6 and 11
    private static void classes() {
        List<Class<?>> all = new ArrayList<>(List.of(FaultyCube.class.getDeclaredClasses()));
        all.add(FaultyCube.class);
        C.due("at most twelve classes", 1, () -> all.size() <= 12 ? 1 : 0);
        for (Class<?> one : all) {
            int own = 0;
            for (Field f : one.getDeclaredFields()) {
                own += Modifier.isStatic(f.getModifiers()) ? 0 : 1;
                C.dueText("the field " + f, "as rules 3 and 5 ask", judged(f, all));
            }
            int fields = own;
            C.due("at most twenty fields in " + one, 1, () -> fields <= 20 ? 1 : 0);
            for (Method m : one.getDeclaredMethods()) {
                C.due("at most seven parameters of " + m, 1,
                        () -> m.getParameterCount() <= 7 ? 1 : 0);
                C.due("no own equals, hashCode, toString: " + m, 0,
                        () -> m.getName().matches("equals|hashCode|toString") ? 1 : 0);
            }
            for (Constructor<?> made : one.getDeclaredConstructors()) {
                C.due("a constructor throws nothing: " + made, 0,
                        () -> made.getExceptionTypes().length);
            }
            C.due("no class above " + one, 1, () -> one.getSuperclass() == Object.class ? 1 : 0);
        }
    }

    private static String judged(Field f, List<Class<?>> own) {
        Class<?> type = f.getType();
        if (Modifier.isStatic(f.getModifiers())) {
            boolean fine = Modifier.isFinal(f.getModifiers())
                    && CONSTANT_TYPES.contains(type.getSimpleName());
            return fine ? "as rules 3 and 5 ask" : "no constant";
        }
        Class<?> part = type.isArray() ? type.getComponentType() : type;
        boolean fine = part.isPrimitive() || own.contains(part);
        return fine ? "as rules 3 and 5 ask" : "of another type";
    }

    // Rule 12 and the one room: a cube holds few objects, and no others after 512 calls
    private static void objects() throws IllegalAccessException {
        FaultyCube x = new FaultyCube();
        Map<Object, Object> before = new IdentityHashMap<>();
        long elements = walk(x, before);
        for (int i = 0; i < 128; i++) {
            x.setDimension(1 + i % 6);
            x.send(0, 1);
            x.step(2);
            x.undo();
        }
        Map<Object, Object> after = new IdentityHashMap<>();
        walk(x, after);
        C.due("few objects", 1, () -> before.size() < 100 ? 1 : 0);
        C.due("few fields and elements", 1, () -> elements < 3000 ? 1 : 0);
        C.due("the same objects after 512 calls", 1,
                () -> before.keySet().containsAll(after.keySet())
                        && after.size() == before.size() ? 1 : 0);
    }

    /** Answers the number of fields and elements. */
    private static long walk(Object at, Map<Object, Object> seen)
            throws IllegalAccessException {
        if (at == null || seen.put(at, at) != null) {
            return 0;
        }
        long found = 0;
        if (at.getClass().isArray()) {
            found += Array.getLength(at);
            boolean rows = !at.getClass().getComponentType().isPrimitive();
            for (int i = 0; rows && i < Array.getLength(at); i++) {
                found += walk(Array.get(at, i), seen);
            }
            return found;
        }
        for (Field f : at.getClass().getDeclaredFields()) {
            if (!Modifier.isStatic(f.getModifiers())) {
                found++;
                f.setAccessible(true);
                found += f.getType().isPrimitive() ? 0 : walk(f.get(at), seen);
            }
        }
        return found;
    }
}
