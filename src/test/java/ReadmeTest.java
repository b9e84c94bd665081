import java.io.IOException;
import java.lang.reflect.InvocationTargetException;
import java.lang.reflect.Method;
import java.nio.file.Files;
import java.nio.file.Paths;
import java.util.List;
import java.util.regex.Matcher;
import java.util.regex.Pattern;

/** The calls that README.md shows answer what stands behind them; run from the project's folder. */
public final class ReadmeTest {
    private static final String NEW_OBJECT = "GuessMarks x = new GuessMarks();";
    private static final Pattern CALL = Pattern.compile("x\\.(\\w+)\\(([-0-9, ]*)\\); +// ([-\\w]+).*");

    public static void main(String[] args) throws IOException, ReflectiveOperationException {
        List<String> lines = Files.readAllLines(Paths.get("README.md"));
        GuessMarks x = null;
        int objects = 0;
        int calls = 0;
        for (int i = 0; i < lines.size(); i++) {
            String line = lines.get(i);
            if (line.equals(NEW_OBJECT)) {
                x = new GuessMarks();
                objects++;
            } else if (line.startsWith("x.")) {
                calls++;
                callDue("line " + (i + 1) + ": " + line, x, CALL.matcher(line));
            }
        }
        Check.same("README.md shows an object and calls", "true", String.valueOf(objects > 0 && calls > 0));
        Check.end();
    }

    private static void callDue(String what, GuessMarks x, Matcher call) throws ReflectiveOperationException {
        if (x == null || !call.matches()) {
            Check.same(what, "a call of an object, with its answer", "something else");
            return;
        }
        Check.same(what, call.group(3), answer(x, call.group(1), call.group(2)));
    }

    private static String answer(GuessMarks x, String name, String numbers) throws ReflectiveOperationException {
        String[] words = numbers.isEmpty() ? new String[0] : numbers.split(", ");
        Class<?>[] types = new Class<?>[words.length];
        Object[] values = new Object[words.length];
        for (int i = 0; i < words.length; i++) {
            types[i] = int.class;
            values[i] = Integer.valueOf(words[i]);
        }
        Method method = GuessMarks.class.getMethod(name, types);
        try {
            return String.valueOf(method.invoke(x, values));
        } catch (InvocationTargetException e) {
            return e.getCause().getClass().getSimpleName();
        }
    }
}
