import java.util.function.IntSupplier;

/** What all tests share: they tell each answer that is not due, and end with exit code 1 then. */
final class Check {
    private static int told = 0;

    private Check() {}

    /** Runs the test that a sentence of the document has of its own, and tells whether it holds. */
    static void sentence(String words, Runnable test) {
        int before = told;
        try {
            test.run();
        } catch (RuntimeException e) {
            told++;
            System.out.println("the test ended by " + e);
        }
        System.out.println((told == before ? "  holds   " : "  BROKEN  ") + words);
    }

    static void due(String call, long got, long want) {
        if (got != want) {
            told++;
            System.out.println(call + " answered " + got + ", due is " + want);
        }
    }

    static void outOfBounds(String call, IntSupplier answer) {
        String got;
        try {
            got = "answered " + answer.getAsInt();
        } catch (RuntimeException e) {
            got = isOwn(e) ? "thrown as due" : e.toString();
        }
        same(call, got, "thrown as due");
    }

    /** The class's own throw: one of the Java machine is told by the text that the machine gives it. */
    static boolean isOwn(RuntimeException e) {
        String text = String.valueOf(e.getMessage());
        return e.getClass() == ArrayIndexOutOfBoundsException.class
                && !text.matches("Index -?[0-9]+ out of bounds for length [0-9]+");
    }

    static void same(String what, String got, String want) {
        if (!got.equals(want)) {
            told++;
            System.out.println(what + " is " + got + ", due is " + want);
        }
    }

    static void end() {
        if (told > 0) {
            System.out.println(told + " answers are not as due");
            System.exit(1);
        }
    }
}
