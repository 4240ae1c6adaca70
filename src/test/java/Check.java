import java.util.function.IntSupplier;

/** What all tests share: they tell each answer that is not due, and end with exit code 1 then. */
final class Check {
    private static int told = 0;

    private Check() {}

    static void due(String call, long got, long want) {
        if (got != want) {
            told++;
            System.out.println(call + " answered " + got + ", due is " + want);
        }
    }

    static void outOfBounds(String call, IntSupplier answer) {
        String got;
        try {
            got = "answered " + answer.getAsInt();
        } catch (RuntimeException e) {
            got = isOwn(e) ? "thrown as due" : e.toString();
        }
        same(call, got, "thrown as due");
    }

    /** The class's own throw, by its text: not one that the Java machine threw in it. */
    static boolean isOwn(RuntimeException e) {
        String text = String.valueOf(e.getMessage());
        return e.getClass() == ArrayIndexOutOfBoundsException.class && text.startsWith("no such ");
    }

    static void same(String what, String got, String want) {
        if (!got.equals(want)) {
            told++;
            System.out.println(what + " is " + got + ", due is " + want);
        }
    }

    static void end() {
        if (told > 0) {
            System.out.println(told + " answers are not as due");
            System.exit(1);
        }
    }
}
