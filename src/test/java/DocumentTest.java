import java.io.IOException;
import java.lang.reflect.Method;
import java.nio.file.Files;
import java.nio.file.Path;
import java.util.ArrayList;
import java.util.List;
import java.util.Map;
import java.util.TreeMap;
import java.util.stream.Stream;

/** Every word of the document's promises and terms is claimed by a test, and no test claims others. */
public final class DocumentTest {
    public static void main(String[] args) throws IOException, ReflectiveOperationException {
        Map<String, String> sections = sections();
        Map<String, List<String>> claims = claims();
        for (String heading : sections.keySet()) {
            claimsStandThere(heading, claims.getOrDefault(heading, List.of()), sections);
            everyWordIsClaimed(heading, claims.getOrDefault(heading, List.of()), sections.get(heading));
        }
        Driver.same("the headings that tests are named after", sections.keySet().containsAll(claims.keySet()), true);
        Driver.end();
    }

    /** By heading, 'Promise 2: type' being 'Promise 2'; the face of the calls is PublicFaceTest's. */
    private static Map<String, String> sections() throws IOException {
        Map<String, String> found = new TreeMap<>();
        for (String section : Files.readString(Path.of("../shared/DOC.md")).split("\n## ")) {
            String heading = section.lines().findFirst().orElse("").replaceAll(":.*", "");
            if (heading.startsWith("Promise") || heading.equals("Terms") || heading.equals("What it is")) {
                String words = section.substring(section.indexOf('\n')).replaceAll("```(text)?", " ");
                found.put(heading, words.replaceAll("`[^`]*`: ", "").replaceAll("\\s+", " "));
            }
        }
        Driver.same("sections", found.size(), 11);
        return found;
    }

    private static Map<String, List<String>> claims() throws IOException, ReflectiveOperationException {
        Map<String, List<String>> found = new TreeMap<>();
        for (Class<?> tests : testClasses()) {
            List<String> claimed = found.computeIfAbsent(Sentences.headingOf(tests), heading -> new ArrayList<>());
            for (Method method : Sentences.testsOf(tests)) {
                claimed.addAll(List.of(method.getAnnotation(Says.class).value()));
            }
        }
        return found;
    }

    private static List<Class<?>> testClasses() throws IOException, ReflectiveOperationException {
        List<Class<?>> found = new ArrayList<>();
        try (Stream<Path> files = Files.list(Path.of("src/test/java"))) {
            for (Path file : files.sorted().toList()) {
                String name = file.getFileName().toString();
                if (name.matches("(Promise|Terms|WhatItIs).*Test\\.java")) {
                    found.add(Class.forName(name.replace(".java", "")));
                }
            }
        }
        return found;
    }

    /** A promise's test may also claim words of the terms that the promise rests on. */
    private static void claimsStandThere(String heading, List<String> claimed, Map<String, String> sections) {
        for (String words : claimed) {
            boolean found = sections.get(heading).contains(words) || sections.get("Terms").contains(words);
            Driver.same(heading + " or the terms say: " + words, found, true);
        }
    }

    private static void everyWordIsClaimed(String heading, List<String> claimed, String said) {
        StringBuilder left = new StringBuilder(said);
        for (String words : claimed) {
            for (int at = said.indexOf(words); at >= 0; at = said.indexOf(words, at + 1)) {
                left.replace(at, at + words.length(), " ".repeat(words.length()));
            }
        }
        Driver.same(heading + " says what no test claims:", left.toString().replaceAll("\\s+", " ").trim(), "");
    }
}
