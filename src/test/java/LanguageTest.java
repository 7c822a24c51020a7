import java.io.IOException;
import java.lang.reflect.Field;
import java.lang.reflect.Method;
import java.lang.reflect.Modifier;
import java.nio.file.Files;
import java.nio.file.Path;
import java.util.Set;
import java.util.TreeSet;

/** Those rules of LANGUAGE.md that can be looked at from outside; the face is PublicFaceTest's. */
public final class LanguageTest {
    private static final String[] FORBIDDEN = {
        "finally", "synchronized", "assert ", "->", "::", "Exact(", "getMessage", "hashCode", "static {", "Random", "Thread",
        "System.in", "System.out", "System.err", "System.nano", "System.current", "System.get", "java.io", "java.nio",
    };

    public static void main(String[] args) throws IOException {
        namesNoPrivateMethodAsAPublicOne();
        keepsItsClassesSmall();
        usesNothingForbidden();
        keepsFewCallsOpen();
        Driver.end();
    }

    private static void namesNoPrivateMethodAsAPublicOne() {
        Set<String> publicNames = new TreeSet<>();
        for (Method method : NeedMachine.class.getDeclaredMethods()) {
            if (Modifier.isPublic(method.getModifiers())) {
                publicNames.add(method.getName());
            }
        }
        for (Method method : NeedMachine.class.getDeclaredMethods()) {
            boolean shadows = Modifier.isPrivate(method.getModifiers()) && publicNames.contains(method.getName());
            Driver.same(method + " bears a public name", shadows, false);
        }
    }

    private static void keepsItsClassesSmall() {
        Class<?>[] inside = NeedMachine.class.getDeclaredClasses();
        Driver.same("at most twelve classes", inside.length + 1 <= 12, true);
        for (Class<?> each : inside) {
            Driver.same(each + " is static", Modifier.isStatic(each.getModifiers()), true);
            Driver.same(each + " is not public", Modifier.isPublic(each.getModifiers()), false);
            Driver.same(each + " has few fields", each.getDeclaredFields().length <= 20, true);
        }
        for (Field field : NeedMachine.class.getDeclaredFields()) {
            boolean loose = Modifier.isStatic(field.getModifiers()) && !Modifier.isFinal(field.getModifiers());
            Driver.same(field + " is static and may change", loose, false);
        }
    }

    private static void usesNothingForbidden() throws IOException {
        String source = Files.readString(Path.of("src/main/java/NeedMachine.java"));
        for (String word : FORBIDDEN) {
            Driver.same("the program uses '" + word + "'", source.contains(word), false);
        }
        for (String line : source.lines().toList()) {
            boolean allowed = line.matches("import java\\.util\\.(ArrayList|List|Arrays|Iterator|NoSuchElementException);");
            Driver.same("the library has " + line, allowed || !line.startsWith("import"), true);
            Driver.same("the program has a package: " + line, line.startsWith("package"), false);
        }
    }

    /** Rule 8: fewer than 300 calls stand open at once, in whatever way working out goes 60 deep. */
    private static void keepsFewCallsOpen() {
        String[] deep = {"A=A", "A=+1A", "A=h:An", "A=zA", "A=?A11", "A=.A1", "A=t:n+A1", "A=+h:AAn", "A=?1A1"};
        for (String definition : deep) {
            NeedMachine machine = new NeedMachine();
            machine.type(Driver.pack(definition));
            machine.define();
            machine.type(Driver.pack("A"));
            int open = openCalls(machine);
            Driver.same(definition + " has " + open + " calls open, as it should", open > 0 && open < 300, true);
        }
    }

    private static int openCalls(NeedMachine machine) {
        try {
            machine.ask();
            return 0;
        } catch (IllegalStateException e) {
            return e.getStackTrace().length;
        }
    }
}
