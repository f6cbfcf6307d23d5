import java.io.IOException;
import java.lang.reflect.Method;
import java.lang.reflect.Modifier;
import java.nio.file.Files;
import java.nio.file.Path;
import java.util.Set;
import java.util.TreeSet;
import java.util.regex.Matcher;
import java.util.regex.Pattern;

/**
 * The answers that README.md tells in its Java blocks are those that the class gives. In them a line
 * makes a new object, or is one call with its answer first in the comment behind it, or is empty.
 */
public final class ReadmeTest {
    private static final Pattern NEW = Pattern.compile("TwinLog log = new TwinLog\\(\\); .*");
    private static final Pattern CALL = Pattern.compile("log\\.(\\w+)\\(([-\\d, ]*)\\); +// (-?\\w+)(:.*)?");

    private final Due due;
    private final Set<String> shown = new TreeSet<>();
    private TwinLog log;

    private ReadmeTest(Due due) {
        this.due = due;
    }

    /** It is run from the root of the checkout, where README.md is. */
    public static void main(String[] args) throws IOException, ReflectiveOperationException {
        Due due = new Due("ReadmeTest");
        ReadmeTest test = new ReadmeTest(due);
        boolean inJava = false;
        for (String line : Files.readAllLines(Path.of("README.md"))) {
            if (line.startsWith("```")) {
                inJava = line.equals("```java");
            } else if (inJava && !line.isEmpty()) {
                test.line(line);
            }
        }
        test.everyMethodIsShown();
        due.end();
    }

    private void line(String line) throws ReflectiveOperationException {
        if (NEW.matcher(line).matches()) {
            log = new TwinLog();
            return;
        }
        Matcher call = CALL.matcher(line);
        due.is("a line that can be read: " + line, call.matches() && log != null, true);
        if (call.matches() && log != null) {
            shown.add(call.group(1));
            due.is(line, answer(call.group(1), call.group(2)), told(call.group(3)));
        }
    }

    private long answer(String name, String text) throws ReflectiveOperationException {
        String[] parts = text.isBlank() ? new String[0] : text.split(", ");
        Object[] arguments = new Object[parts.length];
        Class<?>[] types = new Class<?>[parts.length];
        for (int i = 0; i < parts.length; i++) {
            arguments[i] = Integer.valueOf(parts[i]);
            types[i] = int.class;
        }
        return asNumber(TwinLog.class.getMethod(name, types).invoke(log, arguments));
    }

    private static long asNumber(Object answer) {
        return answer instanceof Boolean b ? (b ? 1 : 0) : (Integer) answer;
    }

    private static long told(String word) throws ReflectiveOperationException {
        if (word.equals("true") || word.equals("false")) {
            return word.equals("true") ? 1 : 0;
        }
        return word.matches("[A-Z_]+") ? TwinLog.class.getField(word).getInt(null) : Long.parseLong(word);
    }

    private void everyMethodIsShown() {
        for (Method method : TwinLog.class.getDeclaredMethods()) {
            if (Modifier.isPublic(method.getModifiers())) {
                due.is("a run in README.md calls " + method.getName(), shown.contains(method.getName()), true);
            }
        }
    }
}
