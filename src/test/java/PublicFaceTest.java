import java.io.IOException;
import java.lang.reflect.Constructor;
import java.lang.reflect.Field;
import java.lang.reflect.Method;
import java.lang.reflect.Modifier;
import java.nio.file.Files;
import java.nio.file.Path;
import java.util.Set;
import java.util.TreeSet;

/** The public face: the class shows what the document's code shows, word for word, and nothing else. */
public final class PublicFaceTest {
    public static void main(String[] args) throws IOException {
        Set<String> due = new TreeSet<>();
        for (String line : documentsFace().lines().toList()) {
            if (line.endsWith(";")) {
                due.add(line.trim().replaceAll("\\w+(?=\\))", "").replaceAll(" (?=\\))|;", ""));
            }
        }
        Driver.same("the document's members", due.size(), 9);
        Driver.same("the class", classLine(), documentsFace().lines().findFirst().orElse(""));
        Driver.same("the face", shown(), due);
        hidesItsFields();
        Driver.end();
    }

    private static String documentsFace() throws IOException {
        String document = Files.readString(Path.of("../shared/DOC.md"));
        String begin = "```java\n";
        int at = document.indexOf(begin) + begin.length();
        return document.substring(at, document.indexOf("```", at));
    }

    private static String classLine() {
        return Modifier.toString(NeedMachine.class.getModifiers()) + " class " + NeedMachine.class.getName() + " {";
    }

    private static Set<String> shown() {
        Set<String> found = new TreeSet<>();
        for (Constructor<?> constructor : NeedMachine.class.getDeclaredConstructors()) {
            found.add(constructor.toString());
        }
        for (Method method : NeedMachine.class.getDeclaredMethods()) {
            if (!Modifier.isPrivate(method.getModifiers())) {
                found.add(asWritten(method));
            }
        }
        return found;
    }

    private static String asWritten(Method method) {
        return method.toString().replace("NeedMachine.", "").replace("java.lang.", "").replace(",", ", ");
    }

    private static void hidesItsFields() {
        for (Field field : NeedMachine.class.getDeclaredFields()) {
            Driver.same(field + " is private", Modifier.isPrivate(field.getModifiers()), true);
        }
    }
}
