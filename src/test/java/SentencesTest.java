import java.io.IOException;
import java.lang.reflect.InvocationTargetException;
import java.lang.reflect.Method;
import java.nio.file.Files;
import java.nio.file.Path;
import java.util.ArrayList;
import java.util.Arrays;
import java.util.Comparator;
import java.util.LinkedHashMap;
import java.util.List;
import java.util.Map;

/** Each sentence of the document that names a boundary, by a test of its own; its words must stand in the document. */
public final class SentencesTest {
    private static final Class<?>[] TESTS = {TextBounds.class, StepBounds.class, AskBounds.class, CallBounds.class};
    private static final Path DOCUMENT = Path.of("../shared/DOC.md");
    private static final int PROMISES = 39;

    private final Check check = new Check();
    private final Map<String, String> parts = new LinkedHashMap<>();
    private final Map<String, boolean[]> tested = new LinkedHashMap<>();

    public static void main(String[] args) throws IOException, IllegalAccessException {
        SentencesTest sentences = new SentencesTest();
        sentences.readDocument();
        for (Class<?> tests : TESTS) {
            sentences.run(tests);
        }
        sentences.eachPromiseIsTested();
        if (args.length > 0) {
            sentences.showRest();
        }
        sentences.check.end();
    }

    private void readDocument() throws IOException {
        for (String part : Files.readString(DOCUMENT).split("\n## ")) {
            int end = part.indexOf('\n');
            String name = part.substring(0, end).split(":")[0];
            parts.put(name, part.substring(end).replaceAll("\\s+", " "));
            tested.put(name, new boolean[parts.get(name).length()]);
        }
    }

    private void run(Class<?> tests) throws IllegalAccessException {
        List<Method> methods = new ArrayList<>(Arrays.asList(tests.getDeclaredMethods()));
        methods.removeIf(method -> method.getAnnotation(Says.class) == null);
        methods.sort(Comparator.comparing(Method::getName));
        for (Method method : methods) {
            Says says = method.getAnnotation(Says.class);
            check.open(tests.getSimpleName() + "." + method.getName() + ": ");
            mark(says);
            int before = check.asked();
            try {
                method.invoke(null, check);
            } catch (InvocationTargetException e) {
                check.same("ended by " + e.getCause(), 0, 1);
            }
            check.same("asks something", 1, check.asked() > before ? 1 : 0);
        }
    }

    private void mark(Says says) {
        String part = parts.getOrDefault(says.at(), "");
        int place = part.indexOf(says.words());
        check.same("'" + says.words() + "' stands in the document at " + says.at(), 1, place >= 0 ? 1 : 0);
        if (place >= 0) {
            Arrays.fill(tested.get(says.at()), place, place + says.words().length(), true);
        }
    }

    private void eachPromiseIsTested() {
        for (int promise = 1; promise <= PROMISES; promise++) {
            boolean found = false;
            for (boolean each : tested.getOrDefault("Promise " + promise, new boolean[0])) {
                found |= each;
            }
            check.open("Promise " + promise + ": ");
            check.same("is tested", 1, found ? 1 : 0);
        }
    }

    /** Prints what no test names, so that a reader sees whether a boundary is among it. */
    private void showRest() {
        parts.forEach((name, part) -> {
            StringBuilder rest = new StringBuilder(name).append(": ");
            for (int i = 0; i < part.length(); i++) {
                boolean now = tested.get(name)[i];
                if (!now) {
                    rest.append(part.charAt(i));
                } else if (i == 0 || !tested.get(name)[i - 1]) {
                    rest.append("<..>");
                }
            }
            System.out.println(rest);
        });
    }
}
