import java.lang.reflect.Constructor;
import java.lang.reflect.Field;
import java.lang.reflect.Method;
import java.lang.reflect.Modifier;
import java.util.ArrayList;
import java.util.Arrays;
import java.util.List;
import java.util.Set;
import java.util.TreeSet;

/**
 * The public face: the document's constants, constructor and methods, and no other member; and the
 * rules of LANGUAGE.md that the compiled class can tell.
 */
final class FaceTest {
    private static final Set<String> METHODS = Set.of(
            "add(int)", "end(int,boolean)", "sync()", "merge(int)", "drop(int)", "cut(int,int)", "start()",
            "count(int)", "row(int,int)", "at(int,int)", "wrong(int)", "poke(int,int,int)", "octet(int,int)",
            "writes()");
    private static final Set<String> THROWING = Set.of("at", "poke", "octet");

    public static void main(String[] args) {
        Check.due("public final", Modifier.isPublic(PostDisk.class.getModifiers())
                && Modifier.isFinal(PostDisk.class.getModifiers()) ? 1 : 0, 1);
        constants();
        methods();
        constructor();
        Check.sentence("rule 1: No private method bears the name of a public one", FaceTest::privateNames);
        Check.sentence("rule 1: classes inside are private or package-visible and static", FaceTest::inside);
        Check.sentence("rule 5: Static fields are final", FaceTest::staticFields);
        Check.sentence("rule 11: parameters, classes and fields", FaceTest::sizes);
        Check.end();
    }

    private static void constants() {
        Check.due("NONE", PostDisk.NONE, -1);
        Check.due("OUTSIDE", PostDisk.OUTSIDE, -12);
        Check.due("STATE", PostDisk.STATE, -13);
        Check.due("ROOM", PostDisk.ROOM, -14);
        Check.due("DOWN", PostDisk.DOWN, -33);
        Check.due("LOST", PostDisk.LOST, -34);
        Set<String> open = new TreeSet<>();
        for (Field field : PostDisk.class.getDeclaredFields()) {
            if (!Modifier.isPrivate(field.getModifiers())) {
                open.add(field.getName());
            }
        }
        Check.same("constants", open.toString(), "[DOWN, LOST, NONE, OUTSIDE, ROOM, STATE]");
    }

    private static void methods() {
        Set<String> open = new TreeSet<>();
        for (Method method : PostDisk.class.getDeclaredMethods()) {
            if (!Modifier.isPrivate(method.getModifiers())) {
                open.add(signature(method));
                Check.same("answer of " + method.getName(), method.getReturnType().getName(), "int");
                Check.same("throws of " + method.getName(), Arrays.toString(method.getExceptionTypes()),
                        THROWING.contains(method.getName())
                                ? "[" + ArrayIndexOutOfBoundsException.class + "]"
                                : "[]");
            }
        }
        Check.same("methods", open.toString(), new TreeSet<>(METHODS).toString());
    }

    private static String signature(Method method) {
        StringBuilder text = new StringBuilder(method.getName()).append('(');
        for (Class<?> type : method.getParameterTypes()) {
            text.append(text.charAt(text.length() - 1) == '(' ? "" : ",").append(type.getName());
        }
        return text.append(')').toString();
    }

    private static void constructor() {
        Constructor<?>[] all = PostDisk.class.getDeclaredConstructors();
        Check.due("constructors", all.length, 1);
        Check.due("it is public", Modifier.isPublic(all[0].getModifiers()) ? 1 : 0, 1);
    }

    private static void privateNames() {
        Set<String> open = new TreeSet<>();
        for (String method : METHODS) {
            open.add(method.substring(0, method.indexOf('(')));
        }
        for (Class<?> type : allClasses()) {
            for (Method method : type.getDeclaredMethods()) {
                boolean isHidden = type != PostDisk.class || Modifier.isPrivate(method.getModifiers());
                boolean bears = isHidden && open.contains(method.getName());
                Check.due(type.getName() + "." + method.getName() + " bears a public name", bears ? 1 : 0, 0);
            }
        }
    }

    private static void inside() {
        for (Class<?> type : PostDisk.class.getDeclaredClasses()) {
            int modifiers = type.getModifiers();
            boolean isClosed = !Modifier.isPublic(modifiers) && !Modifier.isProtected(modifiers);
            Check.due(type.getName(), isClosed && Modifier.isStatic(modifiers) ? 1 : 0, 1);
        }
    }

    private static void staticFields() {
        for (Class<?> type : allClasses()) {
            for (Field field : type.getDeclaredFields()) {
                int modifiers = field.getModifiers();
                boolean isFree = Modifier.isStatic(modifiers) && !Modifier.isFinal(modifiers);
                Check.due(type.getName() + "." + field.getName() + " can change", isFree ? 1 : 0, 0);
            }
        }
    }

    private static void sizes() {
        Check.due("at most twelve classes", allClasses().size() <= 12 ? 1 : 0, 1);
        for (Class<?> type : allClasses()) {
            long fields = Arrays.stream(type.getDeclaredFields())
                    .filter(field -> !Modifier.isStatic(field.getModifiers()))
                    .count();
            Check.due(type.getName() + ", at most twenty fields", fields <= 20 ? 1 : 0, 1);
            for (Method method : type.getDeclaredMethods()) {
                Check.due(method + ", at most seven parameters", method.getParameterCount() <= 7 ? 1 : 0, 1);
            }
        }
    }

    private static List<Class<?>> allClasses() {
        List<Class<?>> all = new ArrayList<>(List.of(PostDisk.class.getDeclaredClasses()));
        all.add(PostDisk.class);
        return all;
    }
}
