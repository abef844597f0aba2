import java.io.IOException;
import java.lang.reflect.Constructor;
import java.lang.reflect.Executable;
import java.lang.reflect.Field;
import java.lang.reflect.Member;
import java.lang.reflect.Method;
import java.lang.reflect.Modifier;
import java.nio.file.Files;
import java.nio.file.Path;
import java.util.Set;
import java.util.StringJoiner;
import java.util.TreeSet;

/** The public face: each line of it, as the document writes it, stands in the class, and no other member is open. */
public final class FaceTest {
    private static final Path DOCUMENT = Path.of("../shared/DOC.md");
    private static final int LINES = 40;

    public static void main(String[] args) throws IOException, IllegalAccessException {
        Check check = new Check();
        Set<String> told = told();
        Set<String> found = found();
        check.same("lines of the face", LINES, told.size());
        for (String line : told) {
            check.same("'" + line + "' stands in the class", 1, found.contains(line) ? 1 : 0);
        }
        for (String line : found) {
            check.same("'" + line + "' stands in the document", 1, told.contains(line) ? 1 : 0);
        }
        check.same("public and final", Modifier.PUBLIC | Modifier.FINAL, WinnerDraws.class.getModifiers());
        for (Class<?> inside : WinnerDraws.class.getDeclaredClasses()) {
            boolean hidden = !Modifier.isPublic(inside.getModifiers()) && !Modifier.isProtected(inside.getModifiers());
            check.same(inside.getSimpleName() + " is not open", 1, hidden ? 1 : 0);
            check.same(inside.getSimpleName() + " is static", 1, Modifier.isStatic(inside.getModifiers()) ? 1 : 0);
        }
        check.end();
    }

    /** The lines of the document's face, the names of parameters left out. */
    private static Set<String> told() throws IOException {
        String document = Files.readString(DOCUMENT);
        int start = document.indexOf("public final class WinnerDraws {");
        int end = document.indexOf("```", Math.max(start, 0));
        Set<String> lines = new TreeSet<>();
        if (start >= 0 && end >= 0) {
            document.substring(start, end).lines().skip(1).map(String::strip).filter(line -> line.endsWith(";"))
                    .forEach(line -> lines.add(line.replaceAll("(int|long) \\w+(?=[,)])", "$1").replace(";", "")));
        }
        return lines;
    }

    private static Set<String> found() throws IllegalAccessException {
        Set<String> lines = new TreeSet<>();
        for (Field field : WinnerDraws.class.getDeclaredFields()) {
            if (isOpen(field)) {
                String value = Modifier.isStatic(field.getModifiers()) ? " = " + field.get(null) : "";
                lines.add(Modifier.toString(field.getModifiers()) + " " + field.getType().getSimpleName() + " "
                        + field.getName() + value);
            }
        }
        for (Constructor<?> constructor : WinnerDraws.class.getDeclaredConstructors()) {
            if (isOpen(constructor)) {
                lines.add(line(constructor, constructor.getDeclaringClass().getSimpleName()));
            }
        }
        for (Method method : WinnerDraws.class.getDeclaredMethods()) {
            if (isOpen(method)) {
                lines.add(line(method, method.getReturnType().getSimpleName() + " " + method.getName()));
            }
        }
        return lines;
    }

    private static boolean isOpen(Member member) {
        return !Modifier.isPrivate(member.getModifiers()) && !member.isSynthetic();
    }

    private static String line(Executable call, String named) {
        String thrown = call.getExceptionTypes().length == 0 ? "" : " throws " + listed(call.getExceptionTypes());
        return Modifier.toString(call.getModifiers()) + " " + named + "(" + listed(call.getParameterTypes()) + ")"
                + thrown;
    }

    private static String listed(Class<?>[] types) {
        StringJoiner list = new StringJoiner(", ");
        for (Class<?> type : types) {
            list.add(type.getSimpleName());
        }
        return list.toString();
    }
}
