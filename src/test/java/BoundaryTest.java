import java.io.IOException;
import java.lang.reflect.InvocationTargetException;
import java.lang.reflect.Method;
import java.nio.file.Files;
import java.nio.file.Path;
import java.util.ArrayList;
import java.util.Arrays;
import java.util.Comparator;
import java.util.List;
import java.util.Set;
import java.util.TreeSet;
import java.util.concurrent.atomic.AtomicReference;

/** A test of its own for each sentence of the document that names a boundary case; a sentence quoted must stand there. */
public final class BoundaryTest {
    private static final Class<?>[] TESTS = {TextBoundaries.class, RuleBoundaries.class, CallBoundaries.class};
    private static final String[] HEADINGS = {"==== 2.", "==== 3."};
    private static final int PROMISES = 42;
    private static final int LONGEST_MILLIS = 30_000;

    public static void main(String[] args) throws IOException {
        String doc = Files.readString(Path.of("../shared/DOC.md")).replaceAll("\\s+", " ");
        Set<Integer> missing = new TreeSet<>();
        for (int promise = 1; promise <= PROMISES; promise++) {
            missing.add(promise);
        }
        int wrong = 0;
        List<Method> tests = tests();
        for (Method test : tests) {
            Says says = test.getAnnotation(Says.class);
            for (int promise : says.promise()) {
                missing.remove(promise);
            }
            List<String> faults = run(test);
            if (!section(doc, says).contains(says.text())) {
                faults.add("no such sentence in the document");
            }
            if (!faults.isEmpty()) {
                wrong++;
                System.out.println("promise " + Arrays.toString(says.promise()) + ", '" + says.text() + "' (" + test.getName() + "):");
                faults.forEach(f -> System.out.println("    " + f));
            }
        }
        if (!missing.isEmpty()) {
            wrong++;
            System.out.println("no test stands for promises " + missing);
        }
        System.out.println(wrong == 0 ? "all " + tests.size() + " sentences hold" : wrong + " sentences do not hold");
        if (wrong != 0) {
            System.exit(1);
        }
    }

    private static List<Method> tests() {
        List<Method> tests = new ArrayList<>();
        for (Class<?> c : TESTS) {
            for (Method m : c.getDeclaredMethods()) {
                if (m.isAnnotationPresent(Says.class)) {
                    tests.add(m);
                }
            }
        }
        tests.sort(Comparator.comparing((Method m) -> m.getAnnotation(Says.class).promise()[0]).thenComparing(Method::getName));
        return tests;
    }

    /** What is wrong by a test; one that does not end is the last that is run. */
    private static List<String> run(Method test) {
        AtomicReference<String> thrown = new AtomicReference<>();
        Thread thread = new Thread(() -> {
            try {
                test.invoke(null);
            } catch (InvocationTargetException e) {
                thrown.set("threw " + e.getCause());
            } catch (IllegalAccessException e) {
                thrown.set("cannot be run: " + e);
            }
        });
        thread.setDaemon(true);
        thread.start();
        try {
            thread.join(LONGEST_MILLIS);
        } catch (InterruptedException e) {
            throw new IllegalStateException(e);
        }
        if (thread.isAlive()) {
            System.out.println(test.getName() + " ('" + test.getAnnotation(Says.class).text() + "') did not end");
            System.exit(1);
        }
        List<String> faults = Boundary.takeWrong();
        if (thrown.get() != null) {
            faults.add(thrown.get());
        }
        return faults;
    }

    /** Where the sentence must stand: under a heading, in a paragraph of rules, or under its first promise. */
    private static String section(String doc, Says says) {
        String heading = says.under().isEmpty() ? "## Promise " + says.promise()[0] + ":" : says.under();
        int start = doc.indexOf(heading);
        if (start < 0) {
            return "";
        }
        int end = doc.length();
        for (String other : HEADINGS) {
            int next = doc.indexOf(other, start + heading.length());
            end = next < 0 ? end : Math.min(end, next);
        }
        int next = doc.indexOf("## ", start + heading.length());
        return doc.substring(start, next < 0 ? end : Math.min(end, next));
    }
}
