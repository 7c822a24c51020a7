import java.lang.reflect.InvocationTargetException;
import java.lang.reflect.Method;
import java.util.ArrayList;
import java.util.Comparator;
import java.util.List;

/** Runs the test methods of a class, and tells which words of the document are broken when one fails. */
final class Sentences {
    private Sentences() {
    }

    /** Ends the program: exit code 1 if an answer was not as due. */
    static void run(Class<?> tests) throws ReflectiveOperationException {
        for (Method method : testsOf(tests)) {
            int before = Driver.wrongSoFar();
            call(method);
            if (Driver.wrongSoFar() > before) {
                String words = String.join(" .. ", method.getAnnotation(Says.class).value());
                System.out.println(headingOf(tests) + " is broken (" + method.getName() + "): " + words);
            }
        }
        Driver.end();
    }

    static List<Method> testsOf(Class<?> tests) {
        List<Method> found = new ArrayList<>();
        for (Method method : tests.getDeclaredMethods()) {
            if (method.isAnnotationPresent(Says.class)) {
                found.add(method);
            }
        }
        found.sort(Comparator.comparing(Method::getName));
        return found;
    }

    /** Promise2TypeTest stands for 'Promise 2', TermsLimitsTest for 'Terms', WhatItIsTest for 'What it is'. */
    static String headingOf(Class<?> tests) {
        String name = tests.getSimpleName();
        if (name.startsWith("Promise")) {
            return "Promise " + name.charAt("Promise".length());
        }
        return name.startsWith("Terms") ? "Terms" : "What it is";
    }

    private static void call(Method method) throws ReflectiveOperationException {
        try {
            method.invoke(null);
        } catch (InvocationTargetException e) {
            e.getCause().printStackTrace(System.out);
            Driver.same(method.getName() + " runs to its end", false, true);
        }
    }
}
