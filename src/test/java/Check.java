import java.util.function.BooleanSupplier;
import java.util.function.IntSupplier;

/** Counts answers that are not the ones that are due; a test ends with end(). */
final class Check {
    private static int asked = 0;
    private static int wrong = 0;

    private Check() {
    }

    static void due(String call, IntSupplier answer, int want) {
        same(call, outcome(() -> String.valueOf(answer.getAsInt())), String.valueOf(want));
    }

    static void dueBoolean(String call, BooleanSupplier answer, boolean want) {
        same(call, outcome(() -> String.valueOf(answer.getAsBoolean())), String.valueOf(want));
    }

    /** The call answers without an exception. */
    static void done(String call, Runnable action) {
        same(call, outcome(action), "done");
    }

    /** The call throws IllegalStateException: the power is off (or on), or goes off in it. */
    static void badState(String call, Runnable action) {
        same(call, outcome(action), "IllegalStateException");
    }

    static void badArgument(String call, Runnable action) {
        same(call, outcome(action), "IllegalArgumentException");
    }

    static void noElement(String call, Runnable action) {
        same(call, outcome(action), "NoSuchElementException");
    }

    static void outOfBounds(String call, Runnable action) {
        same(call, outcome(action), "IndexOutOfBoundsException");
    }

    static void unsupported(String call, Runnable action) {
        same(call, outcome(action), "UnsupportedOperationException");
    }

    static void same(String call, String got, String want) {
        asked++;
        if (!got.equals(want)) {
            wrong++;
            int at = Math.max(0, firstDifference(got, want) - 40);
            System.out.println(call + " answered " + part(got, at) + ", due is " + part(want, at));
        }
    }

    private static int firstDifference(String a, String b) {
        int i = 0;
        while (i < a.length() && i < b.length() && a.charAt(i) == b.charAt(i)) {
            i++;
        }
        return i;
    }

    /** A long text would hide where it differs. */
    private static String part(String text, int at) {
        if (text.length() <= 100 && at <= 60) {
            return text;
        }
        return ".." + text.substring(at, Math.min(text.length(), at + 100)) + ".. (from " + at + " on)";
    }

    /** The answer as text, or the simple name of the very class that is thrown. */
    static String outcome(java.util.function.Supplier<String> call) {
        try {
            return call.get();
        } catch (RuntimeException e) {
            return e.getClass().getSimpleName();
        }
    }

    static String outcome(Runnable action) {
        return outcome(() -> {
            action.run();
            return "done";
        });
    }

    static void end() {
        System.out.println(asked + " answers, " + wrong + " wrong");
        if (wrong > 0) {
            System.exit(1);
        }
    }
}
