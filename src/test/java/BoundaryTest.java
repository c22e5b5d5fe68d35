import java.io.IOException;
import java.lang.reflect.InvocationTargetException;
import java.lang.reflect.Method;
import java.nio.file.Files;
import java.nio.file.Path;
import java.util.Arrays;
import java.util.Comparator;
import java.util.HashMap;
import java.util.HashSet;
import java.util.Map;
import java.util.Set;

/**
 * Runs the tests of the boundary cases that the document names, each of which quotes the words that
 * it holds the class to, and looks whether the words stand in the document.
 */
public final class BoundaryTest {
    private static final Path DOCUMENT = Path.of("../shared/DOC.md");
    private static final int PROMISES = 16;

    private static final Class<?>[] TESTS = {
        TermsBoundaries.class, TellingBoundaries.class, KeepingBoundaries.class, LabelBoundaries.class,
        WaysBoundaries.class, MarkBoundaries.class, AskingBoundaries.class,
    };

    private static int tests = 0;
    private static final Set<String> tested = new HashSet<>();

    public static void main(String[] args) throws IOException {
        Map<String, String> sections = sectionsOfDocument();
        for (Class<?> group : TESTS) {
            Method[] methods = group.getDeclaredMethods();
            Arrays.sort(methods, Comparator.comparing(Method::getName));
            for (Method method : methods) {
                if (method.isAnnotationPresent(Says.class)) {
                    run(group, method, sections);
                }
            }
        }
        lookForSectionsWithoutTest();
        int wrong = Checks.wrongAnswers();
        System.out.println(tests + " tests of boundary cases: " + (wrong == 0 ? "all hold" : wrong + " faults"));
        if (wrong != 0) {
            System.exit(1);
        }
    }

    private static void run(Class<?> group, Method method, Map<String, String> sections) {
        Says says = method.getAnnotation(Says.class);
        Checks.begin(says.in() + ", '" + says.words() + "' (" + group.getName() + "." + method.getName() + ")");
        tests++;
        tested.add(says.in());
        if (!sections.getOrDefault(says.in(), "").contains(says.words())) {
            Checks.fault("these words do not stand in the document");
        }
        try {
            method.invoke(null);
        } catch (InvocationTargetException e) {
            Checks.fault("a call threw " + e.getCause());
        } catch (IllegalAccessException e) {
            Checks.fault("the test can't be called");
        }
    }

    private static void lookForSectionsWithoutTest() {
        Checks.begin("BoundaryTest");
        for (int promise = 1; promise <= PROMISES; promise++) {
            if (!tested.contains("Promise " + promise)) {
                Checks.fault("promise " + promise + " has no test");
            }
        }
        if (!tested.contains("Terms")) {
            Checks.fault("'Terms' has no test");
        }
    }

    /** The text of each section by its heading, without what follows a promise's number there. */
    private static Map<String, String> sectionsOfDocument() throws IOException {
        Map<String, String> sections = new HashMap<>();
        String heading = "";
        for (String line : Files.readAllLines(DOCUMENT)) {
            if (line.startsWith("## ")) {
                heading = line.substring(3).split(":")[0];
            } else {
                sections.merge(heading, line, (before, more) -> before + " " + more);
            }
        }
        return sections;
    }
}
