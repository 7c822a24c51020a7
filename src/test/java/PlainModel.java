import java.util.ArrayList;
import java.util.HashMap;
import java.util.List;
import java.util.Map;
import java.util.NoSuchElementException;

/** The document once more, worked out straight from the texts with new objects for everything. */
final class PlainModel {
    private record Rule(String parameters, String body) {
    }

    private record Pair(Thunk head, Thunk tail) {
    }

    private record Partial(char name, List<Thunk> arguments) {
    }

    private static final class Thunk {
        private final String expression;
        private final Map<Character, Thunk> scope;
        private boolean started;
        private Object value;

        private Thunk(String expression, Map<Character, Thunk> scope) {
            this.expression = expression;
            this.scope = scope;
        }
    }

    private static final Object NIL = "nil";

    private final Map<Character, Rule> rules = new HashMap<>();
    private final int[] counts = new int[8];
    private String text = "";
    private Object result;

    PlainModel() {
        counts[0] = -1;
    }

    int type(long eight) {
        StringBuilder more = new StringBuilder();
        for (byte b : java.nio.ByteBuffer.allocate(8).putLong(eight).array()) {
            if (b != 0 && (b < 33 || b > 126)) {
                throw new IllegalArgumentException();
            }
            more.append(b == 0 ? "" : String.valueOf((char) b));
        }
        if (text.length() + more.length() > 40) {
            throw new IllegalStateException();
        }
        text += more;
        return text.length();
    }

    private String read(boolean definition) {
        String read = text;
        text = "";
        if (!PlainReader.isRight(read, definition)) {
            counts[0] = PlainReader.place(read, definition);
            throw new IllegalArgumentException();
        }
        return read;
    }

    int define() {
        String read = read(true);
        int equals = read.indexOf('=');
        rules.put(read.charAt(0), new Rule(read.substring(1, equals), read.substring(equals + 1)));
        return equals - 1;
    }

    int ask() {
        String read = read(false);
        counts[3] = 0;
        counts[7] = 0;
        result = null;
        result = value(read, Map.of(), 1);
        return kind(result);
    }

    int number() {
        return asNumber(present(result));
    }

    int head() {
        Object before = result;
        result = null;
        int answer = asNumber(force(asPair(present(before)).head, 0));
        result = before;
        return answer;
    }

    int tail() {
        Object before = result;
        result = null;
        result = force(asPair(present(before)).tail, 0);
        return kind(result);
    }

    int remove(int name) {
        if (name < 0 || name > 5) {
            throw new IllegalArgumentException();
        }
        present(rules.remove((char) ('A' + name)));
        return 0;
    }

    int count(int what) {
        counts[1] = text.length();
        counts[2] = rules.size();
        return what < 0 || what > 7 ? -1 : counts[what];
    }

    private Object value(String e, Map<Character, Thunk> scope, int depth) {
        if (depth > 60) {
            throw new IllegalStateException();
        }
        counts[7] = Math.max(counts[7], depth);
        char sign = e.charAt(0);
        List<String> parts = parts(e);
        if (Character.isDigit(sign)) {
            return sign - '0';
        } else if (sign == 'n') {
            return NIL;
        } else if (sign >= 'a' && sign <= 'f') {
            return force(scope.get(sign), depth);
        } else if (sign >= 'A' && sign <= 'F') {
            return enough(new Partial(sign, List.of()), depth);
        } else if (sign == ':') {
            return new Pair(thunk(parts.get(0), scope), thunk(parts.get(1), scope));
        }
        Object first = value(parts.get(0), scope, depth + 1);
        switch (sign) {
            case '.':
                return applied(first, thunk(parts.get(1), scope), depth);
            case 'h':
                return force(asPair(first).head, depth);
            case 't':
                return force(asPair(first).tail, depth);
            case 'z':
                return first == NIL ? 1 : asPair(first) != null ? 0 : null;
            case '?':
                return value(parts.get(asNumber(first) != 0 ? 1 : 2), scope, depth + 1);
            default:
                int left = asNumber(first);
                return reckoned(sign, left, asNumber(value(parts.get(1), scope, depth + 1)));
        }
    }

    private static int reckoned(char sign, int left, int right) {
        switch (sign) {
            case '+':
                return left + right;
            case '-':
                return left - right;
            case '*':
                return left * right;
            case '/':
                return left / right;
            case '%':
                return left % right;
            case '<':
                return left < right ? 1 : 0;
            default:
                return left == right ? 1 : 0;
        }
    }

    private Object applied(Object function, Thunk argument, int depth) {
        if (!(function instanceof Partial partial)) {
            throw new UnsupportedOperationException();
        }
        List<Thunk> all = new ArrayList<>(partial.arguments);
        all.add(argument);
        return enough(new Partial(partial.name, all), depth);
    }

    private Object enough(Partial partial, int depth) {
        Rule rule = present(rules.get(partial.name));
        if (partial.arguments.size() < rule.parameters.length()) {
            return partial;
        }
        if (counts[3] == 400) {
            throw new IllegalStateException();
        }
        counts[3]++;
        counts[4]++;
        Map<Character, Thunk> scope = new HashMap<>();
        for (int i = 0; i < rule.parameters.length(); i++) {
            scope.put(rule.parameters.charAt(i), partial.arguments.get(i));
        }
        return value(rule.body, scope, depth + 1);
    }

    private static Thunk thunk(String e, Map<Character, Thunk> scope) {
        Thunk own = scope.get(e.charAt(0));
        return own != null ? own : new Thunk(e, scope);
    }

    private Object force(Thunk thunk, int depth) {
        if (thunk.value != null) {
            counts[6]++;
            return thunk.value;
        }
        if (thunk.started) {
            throw new AssertionError("a loop, which no text can make: " + thunk.expression);
        }
        thunk.started = true;
        counts[5]++;
        thunk.value = value(thunk.expression, thunk.scope, depth + 1);
        return thunk.value;
    }

    private static List<String> parts(String e) {
        List<String> parts = new ArrayList<>();
        int from = 1;
        while (from < e.length()) {
            int to = endOf(e, from);
            parts.add(e.substring(from, to));
            from = to;
        }
        return parts;
    }

    private static int endOf(String e, int from) {
        int due = 1;
        int at = from;
        while (due > 0) {
            due += PlainReader.partsOf(e.charAt(at)) - 1;
            at++;
        }
        return at;
    }

    private static <T> T present(T thing) {
        if (thing == null) {
            throw new NoSuchElementException();
        }
        return thing;
    }

    private static int asNumber(Object value) {
        if (!(value instanceof Integer number)) {
            throw new UnsupportedOperationException();
        }
        return number;
    }

    private static Pair asPair(Object value) {
        if (value == NIL) {
            throw new NoSuchElementException();
        }
        if (!(value instanceof Pair pair)) {
            throw new UnsupportedOperationException();
        }
        return pair;
    }

    private static int kind(Object value) {
        return value instanceof Integer ? 0 : value == NIL ? 1 : value instanceof Pair ? 2 : 3;
    }
}
