import java.util.function.IntSupplier;

/** Drives one new NeedMachine and tells every call whose answer is not the one that is due. */
final class Driver {
    static final Class<? extends RuntimeException> BAD = IllegalArgumentException.class;
    static final Class<? extends RuntimeException> MISSING = java.util.NoSuchElementException.class;
    static final Class<? extends RuntimeException> ARITHMETIC = ArithmeticException.class;
    static final Class<? extends RuntimeException> STATE = IllegalStateException.class;
    static final Class<? extends RuntimeException> UNSUPPORTED = UnsupportedOperationException.class;

    static final int NUMBER = 0;
    static final int NIL = 1;
    static final int PAIR = 2;
    static final int FUNCTION = 3;

    private static final int MOST_CALLS = 512;
    private static final int MOST_HISTORY = 300;

    private static int wrong;
    private static int checked;

    private final NeedMachine machine = new NeedMachine();
    private int calls;
    private final StringBuilder history = new StringBuilder();

    /** Up to eight characters as the number that types them. */
    static long pack(String text) {
        long packed = 0;
        for (int i = 0; i < text.length(); i++) {
            packed = packed << 8 | text.charAt(i);
        }
        return packed;
    }

    /** Ends a test: exit code 1 if an answer was not as due. */
    static void end() {
        System.out.println(checked + " answers, " + wrong + " not as due");
        if (wrong != 0 || checked == 0) {
            System.exit(1);
        }
    }

    static int wrongSoFar() {
        return wrong;
    }

    static void same(String what, Object got, Object due) {
        checked++;
        if (!due.equals(got)) {
            wrong++;
            System.out.println(what + " answered " + got + ", due is " + due);
        }
    }

    static Object outcome(IntSupplier call) {
        try {
            return call.getAsInt();
        } catch (RuntimeException e) {
            return e.getClass();
        }
    }

    private Driver check(String call, IntSupplier made, Object due) {
        countCall();
        same(latest() + call, outcome(made), due);
        history.append(call).append("; ");
        return this;
    }

    private String latest() {
        int from = history.length() - MOST_HISTORY;
        return from <= 0 ? history.toString() : ".. " + history.substring(from);
    }

    /** Nothing is promised about what an object answers beyond its last call. */
    private void countCall() {
        calls++;
        if (calls > MOST_CALLS) {
            throw new AssertionError("the test makes more calls than an object is used for");
        }
    }

    int callsLeft() {
        return MOST_CALLS - calls;
    }

    private static String shown(String call, String text) {
        return call + " '" + text + "'";
    }

    private void typeAll(String text) {
        for (int i = 0; i < text.length(); i += 8) {
            countCall();
            machine.type(pack(text.substring(i, Math.min(text.length(), i + 8))));
        }
    }

    Driver type(long eight, int due) {
        return check("type(" + eight + ")", () -> machine.type(eight), due);
    }

    Driver typeThrows(long eight, Class<? extends RuntimeException> due) {
        return check("type(" + eight + ")", () -> machine.type(eight), due);
    }

    Driver typeText(String text) {
        typeAll(text);
        history.append(shown("type", text)).append("; ");
        return this;
    }

    Driver define(String text, int due) {
        typeAll(text);
        return check(shown("define", text), machine::define, due);
    }

    Driver defineThrows(String text, Class<? extends RuntimeException> due) {
        typeAll(text);
        return check(shown("define", text), machine::define, due);
    }

    Driver badDefine(String text, int place) {
        return defineThrows(text, BAD).count(0, place);
    }

    Driver ask(String text, int due) {
        typeAll(text);
        return check(shown("ask", text), machine::ask, due);
    }

    /** For what ask leaves behind, whatever it answers. */
    Driver askAnything(String text) {
        typeAll(text);
        countCall();
        history.append(shown("ask", text)).append("; ");
        outcome(machine::ask);
        return this;
    }

    Driver askNumber(String text, int due) {
        return ask(text, NUMBER).number(due);
    }

    Driver askThrows(String text, Class<? extends RuntimeException> due) {
        typeAll(text);
        return check(shown("ask", text), machine::ask, due);
    }

    Driver badAsk(String text, int place) {
        return askThrows(text, BAD).count(0, place);
    }

    Driver number(int due) {
        return check("number", machine::number, due);
    }

    Driver numberThrows(Class<? extends RuntimeException> due) {
        return check("number", machine::number, due);
    }

    Driver head(int due) {
        return check("head", machine::head, due);
    }

    Driver headThrows(Class<? extends RuntimeException> due) {
        return check("head", machine::head, due);
    }

    Driver tail(int due) {
        return check("tail", machine::tail, due);
    }

    Driver tailThrows(Class<? extends RuntimeException> due) {
        return check("tail", machine::tail, due);
    }

    Driver hasNoResult() {
        return numberThrows(MISSING).headThrows(MISSING).tailThrows(MISSING);
    }

    Driver remove(int name) {
        return check("remove(" + name + ")", () -> removed(name), 0);
    }

    Driver removeThrows(int name, Class<? extends RuntimeException> due) {
        return check("remove(" + name + ")", () -> removed(name), due);
    }

    private int removed(int name) {
        machine.remove(name);
        return 0;
    }

    Driver count(int what, int due) {
        return check("count(" + what + ")", () -> machine.count(what), due);
    }
}
