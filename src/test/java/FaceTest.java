import java.lang.reflect.Constructor;
import java.lang.reflect.Field;
import java.lang.reflect.Method;
import java.lang.reflect.Modifier;
import java.util.ArrayList;
import java.util.HashSet;
import java.util.List;
import java.util.Set;
import java.util.TreeSet;

/** The class has the face of the document, and nothing else that others could see. */
public final class FaceTest {
    private static final String A = " throws IllegalArgumentException";
    private static final String S = " throws IllegalStateException";
    private static final String AS = A + ", IllegalStateException";

    private static final String[] METHODS = {
        "int setDimension(int)" + A, "int kill(int)" + AS, "int revive(int)" + AS,
        "int killAll(int)", "boolean isAlive(int)" + A, "int distance(int, int)" + A,
        "int shortest(int, int)" + AS, "int level(int)" + A, "int rounds()",
        "int safeNodes()", "int vectorBit(int, int)" + A, "int decide(int, int)" + AS,
        "int routeLength(int, int)" + AS, "int routeNode(int, int, int)" + AS,
        "int reach(int, int)" + AS, "int broadcastTime(int, int)" + AS,
        "int broadcastSize(int)" + AS, "int freeSubcubes(int)" + A, "int largestSubcube()",
        "int disjointPaths(int, int)" + AS, "int send(int, int)" + AS, "int step(int)" + A,
        "int state(int)" + A, "int position(int)" + A, "int moves(int)" + A,
        "int count(int)" + A, "int undo()" + S, "long digest()"
    };

    private static final String[] CONSTANTS = {
        "int NONE = -1", "int OPTIMAL = 0", "int DETOUR = 1", "int REFUSED = 2",
        "int MOVING = 0", "int DELIVERED = 1", "int LOST = 2"
    };

    public static void main(String[] args) throws IllegalAccessException {
        Checks c = new Checks("FaceTest");
        Class<?> cube = FaultyCube.class;
        c.dueText("the class", "public final", Modifier.toString(cube.getModifiers()));
        c.dueText("the methods", sorted(List.of(METHODS)), sorted(visibleMethods(cube)));
        c.dueText("the constants", sorted(List.of(CONSTANTS)), sorted(visibleFields(cube)));
        Constructor<?>[] made = cube.getDeclaredConstructors();
        c.due("the number of constructors", 1, () -> made.length);
        c.dueText("the constructor", "public FaultyCube()", made[0].toString());
        c.dueText("private methods with the name of a public one", "[]", sharedNames(cube));
        for (Class<?> inside : cube.getDeclaredClasses()) {
            int m = inside.getModifiers();
            boolean hidden = !Modifier.isPublic(m) && !Modifier.isProtected(m);
            c.due(inside.getName() + " is static and hidden", 1,
                    () -> hidden && Modifier.isStatic(m) ? 1 : 0);
        }
        c.end();
    }

    private static String sorted(List<String> lines) {
        return new TreeSet<>(lines).toString();
    }

    private static List<String> visibleMethods(Class<?> cube) {
        List<String> lines = new ArrayList<>();
        for (Method m : cube.getDeclaredMethods()) {
            if (!Modifier.isPrivate(m.getModifiers())) {
                String modifiers = Modifier.toString(m.getModifiers());
                String line = m.getReturnType() + " " + m.getName() + "("
                        + names(m.getParameterTypes()) + ")";
                String thrown = names(m.getExceptionTypes());
                line += thrown.isEmpty() ? "" : " throws " + thrown;
                lines.add(modifiers.equals("public") ? line : modifiers + " " + line);
            }
        }
        return lines;
    }

    private static String names(Class<?>[] types) {
        List<String> names = new ArrayList<>();
        for (Class<?> type : types) {
            names.add(type.getSimpleName());
        }
        return String.join(", ", names);
    }

    private static List<String> visibleFields(Class<?> cube) throws IllegalAccessException {
        List<String> lines = new ArrayList<>();
        for (Field f : cube.getDeclaredFields()) {
            if (!Modifier.isPrivate(f.getModifiers())) {
                boolean constant = Modifier.toString(f.getModifiers())
                        .equals("public static final");
                String line = f.getType() + " " + f.getName();
                lines.add(constant ? line + " = " + f.get(null) : "no constant: " + line);
            }
        }
        return lines;
    }

    private static String sharedNames(Class<?> cube) {
        Set<String> seen = new HashSet<>();
        Set<String> twice = new TreeSet<>();
        for (Method m : cube.getDeclaredMethods()) {
            if (!seen.add(m.getName())) {
                twice.add(m.getName());
            }
        }
        return twice.toString();
    }
}
