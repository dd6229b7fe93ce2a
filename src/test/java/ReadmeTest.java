import java.io.IOException;
import java.lang.reflect.Field;
import java.lang.reflect.Method;
import java.nio.file.Files;
import java.nio.file.Path;
import java.util.List;
import java.util.Set;
import java.util.TreeSet;
import java.util.regex.Matcher;
import java.util.regex.Pattern;

/**
 * README.md, run from the project's folder: its examples answer what it says, every call has one,
 * and every constant is told.
 */
public final class ReadmeTest {
    private static final Checks CHECKS = new Checks();
    private static final String NEW_OBJECT = "RevisionTree x = new RevisionTree();";
    private static final Pattern CALL = Pattern.compile(
            "x\\.(\\w+)\\(([-\\d, ]*)\\); *// (?:(2\\^40) \\+ )?([A-Z]+|-?\\d+)(?::.*)?");

    public static void main(String[] args) throws IOException, ReflectiveOperationException {
        List<String> lines = Files.readAllLines(Path.of("README.md"));
        Set<String> shown = new TreeSet<>();
        RevisionTree x = null;
        for (String line : lines) {
            Matcher call = CALL.matcher(line);
            if (line.equals(NEW_OBJECT)) {
                x = new RevisionTree();
            } else if (call.matches()) {
                CHECKS.due("README.md: " + line, answerTold(call), answer(x, call));
                shown.add(call.group(1));
            } else if (line.startsWith("x.")) {
                CHECKS.due("README.md: this can be read as a call and its answer: " + line, 1, 0);
            }
        }
        everyCallIsShown(shown);
        everyConstantIsTold(lines);
        CHECKS.close();
    }

    private static long answerTold(Matcher call) throws ReflectiveOperationException {
        String word = call.group(4);
        boolean isName = Character.isLetter(word.charAt(0));
        long number = isName ? RevisionTree.class.getField(word).getInt(null) : Long.parseLong(word);
        return call.group(3) == null ? number : (1L << 40) + number;
    }

    private static long answer(RevisionTree x, Matcher call) throws ReflectiveOperationException {
        String[] words = call.group(2).isEmpty() ? new String[0] : call.group(2).split(", ");
        Object[] arguments = new Object[words.length];
        for (int i = 0; i < words.length; i++) {
            arguments[i] = Integer.valueOf(words[i]);
        }
        return ((Number) methodNamed(call.group(1)).invoke(x, arguments)).longValue();
    }

    private static Method methodNamed(String name) throws NoSuchMethodException {
        for (Method method : RevisionTree.class.getMethods()) {
            if (method.getName().equals(name)) {
                return method;
            }
        }
        throw new NoSuchMethodException(name);
    }

    private static void everyCallIsShown(Set<String> shown) {
        for (Method method : RevisionTree.class.getMethods()) {
            if (method.getDeclaringClass() == RevisionTree.class) {
                String name = method.getName();
                CHECKS.due("README.md: an example of " + name, 1, shown.contains(name) ? 1 : 0);
            }
        }
    }

    private static void everyConstantIsTold(List<String> lines) throws IllegalAccessException {
        for (Field field : RevisionTree.class.getFields()) {
            String row = "| `" + field.getName() + "` | " + field.getInt(null) + " |";
            boolean told = lines.stream().anyMatch(line -> line.startsWith(row));
            CHECKS.due("README.md: the row " + row, 1, told ? 1 : 0);
        }
    }
}
