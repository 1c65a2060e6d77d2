import java.io.IOException;
import java.lang.reflect.InvocationTargetException;
import java.lang.reflect.Method;
import java.nio.file.Files;
import java.nio.file.Path;
import java.util.Set;
import java.util.TreeSet;
import java.util.regex.Matcher;
import java.util.regex.Pattern;

/** The example in README.md: a remark behind a call that answers, or throws, begins with what is due. */
final class ReadmeTest {
    private static final Pattern CALL = Pattern.compile("office\\.(\\w+)\\(([^)]*)\\);\\s*(?://\\s*(.*))?");
    private static final Pattern DUE = Pattern.compile("(throws \\w+|-?\\d+|true|false)\\b.*");

    private static final Due due = new Due("ReadmeTest");

    public static void main(String[] args) throws IOException {
        CrewOffice office = new CrewOffice();
        Set<String> called = new TreeSet<>();
        for (String line : Files.readAllLines(Path.of("README.md"))) {
            Matcher call = CALL.matcher(line);
            if (call.matches()) {
                called.add(call.group(1));
                due.equal(line, answer(office, call.group(1), numbers(call.group(2))), wanted(call));
            }
        }
        due.equal("the example has calls of most methods, " + called, called.size() >= 15, true);
        due.end();
    }

    private static String wanted(Matcher call) {
        Matcher remark = DUE.matcher(call.group(3) == null ? "" : call.group(3));
        boolean answers = method(call.group(1)).getReturnType() != void.class;
        if (remark.matches() && (answers || remark.group(1).startsWith("throws"))) {
            return remark.group(1);
        }
        return answers ? "an answer in the remark" : "nothing";
    }

    private static Integer[] numbers(String list) {
        if (list.isEmpty()) {
            return new Integer[0];
        }
        String[] texts = list.split(", ");
        Integer[] numbers = new Integer[texts.length];
        for (int k = 0; k < texts.length; k++) {
            numbers[k] = Integer.valueOf(texts[k]);
        }
        return numbers;
    }

    private static Method method(String name) {
        for (Method method : CrewOffice.class.getMethods()) {
            if (method.getName().equals(name)) {
                return method;
            }
        }
        throw new IllegalArgumentException("there is no method " + name);
    }

    private static String answer(CrewOffice office, String name, Integer[] numbers) {
        try {
            Object got = method(name).invoke(office, (Object[]) numbers);
            return got == null ? "nothing" : got.toString();
        } catch (InvocationTargetException e) {
            return "throws " + e.getCause().getClass().getSimpleName();
        } catch (IllegalAccessException e) {
            return "could not be called";
        }
    }
}
