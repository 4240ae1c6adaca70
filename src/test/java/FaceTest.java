import java.lang.reflect.Constructor;
import java.lang.reflect.Field;
import java.lang.reflect.Method;
import java.lang.reflect.Modifier;
import java.util.Set;
import java.util.TreeSet;

/** The public face: the document's constants, constructor and methods, and no other member. */
final class FaceTest {
    private static final Set<String> METHODS = Set.of(
            "add(int)", "end(int,boolean)", "sync()", "merge(int)", "drop(int)", "cut(int,int)", "start()",
            "count(int)", "row(int,int)", "at(int,int)", "wrong(int)", "poke(int,int,int)", "octet(int,int)",
            "writes()");
    private static final Set<String> THROWING = Set.of("at", "poke", "octet");

    public static void main(String[] args) {
        Check.due("public final", Modifier.isPublic(PostDisk.class.getModifiers())
                && Modifier.isFinal(PostDisk.class.getModifiers()) ? 1 : 0, 1);
        constants();
        methods();
        constructor();
        Check.end();
    }

    private static void constants() {
        Check.due("NONE", PostDisk.NONE, -1);
        Check.due("OUTSIDE", PostDisk.OUTSIDE, -12);
        Check.due("STATE", PostDisk.STATE, -13);
        Check.due("ROOM", PostDisk.ROOM, -14);
        Check.due("DOWN", PostDisk.DOWN, -33);
        Check.due("LOST", PostDisk.LOST, -34);
        Set<String> open = new TreeSet<>();
        for (Field field : PostDisk.class.getDeclaredFields()) {
            if (!Modifier.isPrivate(field.getModifiers())) {
                open.add(field.getName());
            }
        }
        Check.same("constants", open.toString(), "[DOWN, LOST, NONE, OUTSIDE, ROOM, STATE]");
    }

    private static void methods() {
        Set<String> open = new TreeSet<>();
        for (Method method : PostDisk.class.getDeclaredMethods()) {
            if (!Modifier.isPrivate(method.getModifiers())) {
                open.add(signature(method));
                Check.same("answer of " + method.getName(), method.getReturnType().getName(), "int");
                Check.due("throws of " + method.getName(), method.getExceptionTypes().length,
                        THROWING.contains(method.getName()) ? 1 : 0);
            }
        }
        Check.same("methods", open.toString(), new TreeSet<>(METHODS).toString());
    }

    private static String signature(Method method) {
        StringBuilder text = new StringBuilder(method.getName()).append('(');
        for (Class<?> type : method.getParameterTypes()) {
            text.append(text.charAt(text.length() - 1) == '(' ? "" : ",").append(type.getName());
        }
        return text.append(')').toString();
    }

    private static void constructor() {
        Constructor<?>[] all = PostDisk.class.getDeclaredConstructors();
        Check.due("constructors", all.length, 1);
        Check.due("it is public", Modifier.isPublic(all[0].getModifiers()) ? 1 : 0, 1);
    }
}
