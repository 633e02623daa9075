import java.util.function.Supplier;

/** What the tests share: calls told as texts, and a count of the wrong ones. */
final class Checks {
    private int made;
    private int wrong;

    /** The answer of a call, or the name of what it throws. */
    static String told(Supplier<Object> call) {
        try {
            return String.valueOf(call.get());
        } catch (RuntimeException e) {
            return e.getClass().getSimpleName();
        }
    }

    /** Writes a text, eight characters a call. */
    static void say(ReadMapper x, String text) {
        for (int from = 0; from < text.length(); from += 8) {
            long w = packed(text.substring(from, Math.min(from + 8, text.length())));
            if (!x.write(w)) {
                throw new AssertionError("the text was not taken: " + text);
            }
        }
    }

    static long packed(String text) {
        long w = 0;
        for (char c : text.toCharArray()) {
            w = w << 8 | c;
        }
        return w;
    }

    void due(String what, Object got, Object want) {
        made++;
        if (!String.valueOf(got).equals(String.valueOf(want))) {
            wrong++;
            System.out.println(what + ": answered " + got + ", due is " + want);
        }
    }

    /** Says a text, makes the call that takes it, and compares what comes. */
    void taken(ReadMapper x, String text, Supplier<Object> call, Object want) {
        say(x, text);
        due("after '" + text + "'", told(call), want);
    }

    void throwing(String what, Supplier<Object> call, Object want) {
        due(what, told(call), want);
    }

    /** Something was compared, and nothing was wrong. */
    boolean allRight() {
        return made > 0 && wrong == 0;
    }

    void end(String name) {
        System.out.println(name + ": " + made + " checks, " + wrong + " wrong");
        if (wrong != 0) {
            System.exit(1);
        }
    }
}
