import java.io.IOException;
import java.lang.reflect.Method;
import java.lang.reflect.Modifier;
import java.nio.file.Files;
import java.nio.file.Path;
import java.util.List;
import java.util.Map;
import java.util.Set;
import java.util.TreeMap;
import java.util.TreeSet;
import java.util.regex.Matcher;
import java.util.regex.Pattern;

/** README.md: its examples answer what they say, and it leaves no call, count or exception out. */
public final class ReadmeTest {
    /** As in: machine.type(0x6131L);   // 10: "a1". */
    private static final Pattern EXAMPLE =
            Pattern.compile("machine\\.(\\w+)\\((.*?)\\); *(?:// (-?\\w+)(?:: (.*))?)?");
    private static final String NOTHING = "nothing";
    private static final int COUNTS = 8;

    public static void main(String[] args) throws IOException {
        List<String> lines = Files.readString(Path.of("README.md")).lines().toList();
        Set<String> called = runExamples(lines);
        for (Method method : NeedMachine.class.getDeclaredMethods()) {
            if (Modifier.isPublic(method.getModifiers())) {
                Driver.same("an example calls " + method.getName(), called.contains(method.getName()), true);
                tellsItsExceptions(method, lines);
            }
        }
        tellsTheCounts(lines);
        Driver.same("how to run the tests", lines.contains("    .ci/run"), true);
        Driver.end();
    }

    /** The examples are one run of calls. */
    private static Set<String> runExamples(List<String> lines) {
        NeedMachine machine = new NeedMachine();
        Set<String> called = new TreeSet<>();
        for (String line : lines) {
            if (line.startsWith("machine.")) {
                Matcher example = EXAMPLE.matcher(line);
                Driver.same(line + " is an example", example.matches(), true);
                String due = example.group(3) == null ? NOTHING : example.group(3);
                Driver.same(line, answer(machine, example.group(1), example.group(2)), due);
                spellsItsText(line, example);
                called.add(example.group(1));
            }
        }
        return called;
    }

    private static String answer(NeedMachine machine, String name, String argument) {
        try {
            return call(machine, name, argument);
        } catch (RuntimeException e) {
            return e.getClass().getSimpleName();
        }
    }

    private static String call(NeedMachine machine, String name, String argument) {
        switch (name) {
            case "type":
                return String.valueOf(machine.type(typed(argument)));
            case "define":
                return String.valueOf(machine.define());
            case "ask":
                return String.valueOf(machine.ask());
            case "number":
                return String.valueOf(machine.number());
            case "head":
                return String.valueOf(machine.head());
            case "tail":
                return String.valueOf(machine.tail());
            case "remove":
                machine.remove(Integer.parseInt(argument));
                return NOTHING;
            case "count":
                return String.valueOf(machine.count(Integer.parseInt(argument)));
            default:
                return "no such call";
        }
    }

    private static long typed(String argument) {
        return argument.startsWith("'") ? argument.charAt(1) : Long.decode(argument.replace("L", ""));
    }

    private static void spellsItsText(String line, Matcher example) {
        if (example.group(1).equals("type")) {
            String text = example.group(4).replace("\"", "");
            Driver.same(line + " types what it says", typed(example.group(2)), Driver.pack(text));
        }
    }

    private static void tellsItsExceptions(Method method, List<String> lines) {
        Map<String, String> thrownBy = exceptionTable(lines);
        for (Class<?> exception : method.getExceptionTypes()) {
            String callers = thrownBy.getOrDefault(exception.getSimpleName(), "");
            String told = "when " + method.getName() + " throws " + exception.getSimpleName();
            Driver.same(told, callers.contains("`" + method.getName() + "`"), true);
        }
    }

    /** By exception, all that stands in the middle column; a row without exception goes on with the one above. */
    private static Map<String, String> exceptionTable(List<String> lines) {
        Map<String, String> found = new TreeMap<>();
        String exception = "";
        for (String line : lines.subList(lines.indexOf("| exception | thrown by | when |"), lines.size())) {
            String[] cells = line.split("\\|");
            if (cells.length == 4) {
                exception = cells[1].isBlank() ? exception : cells[1].trim();
                found.merge(exception, cells[2], String::concat);
            }
        }
        return found;
    }

    private static void tellsTheCounts(List<String> lines) {
        for (int what = 0; what < COUNTS; what++) {
            String row = "| " + what + " |";
            Driver.same("a row for count " + what, lines.stream().anyMatch(line -> line.startsWith(row)), true);
        }
    }
}
