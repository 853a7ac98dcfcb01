import java.io.IOException;
import java.lang.reflect.Method;
import java.lang.reflect.Modifier;
import java.nio.file.Files;
import java.nio.file.Path;
import java.util.List;
import java.util.regex.Matcher;
import java.util.regex.Pattern;

/** What README.md shows of the class is what the class does. */
public final class ReadmeTest {
    private static final Check check = new Check("ReadmeTest");
    private static final Pattern TYPED = Pattern.compile("for \\(char c : \"(.*)\"\\.toCharArray\\(\\)\\) \\{");
    private static final Pattern CALL = Pattern.compile("x\\.(\\w+)\\(([-0-9, ]*)\\);\\s+// (-?\\d+).*");

    public static void main(String[] args) throws IOException, ReflectiveOperationException {
        List<String> readme = Files.readAllLines(Path.of("README.md"));
        int asked = rowsOfJava(readme);
        check.due("rows of Java were found", asked >= 40 ? 1 : 0, 1);
        eachCallHasItsRow(String.join("\n", readme));
        check.finish();
    }

    private static int rowsOfJava(List<String> readme) throws ReflectiveOperationException {
        LentCourage x = new LentCourage();
        int asked = 0;
        for (String line : readme) {
            Matcher typed = TYPED.matcher(line);
            Matcher call = CALL.matcher(line);
            if (typed.matches()) {
                Check.type(x, typed.group(1));
            } else if (call.matches()) {
                check.due("README: " + line, answer(x, call.group(1), call.group(2)),
                    Long.parseLong(call.group(3)));
                asked++;
            } else {
                boolean isCall = line.startsWith("x.");
                check.due("a row that can't be read: " + line, isCall ? 1 : 0, 0);
            }
        }
        return asked;
    }

    private static long answer(LentCourage x, String name, String numbers) throws ReflectiveOperationException {
        String[] parts = numbers.isEmpty() ? new String[0] : numbers.split(", ");
        Object[] given = new Object[parts.length];
        Class<?>[] types = new Class<?>[parts.length];
        for (int i = 0; i < parts.length; i++) {
            given[i] = Integer.valueOf(parts[i]);
            types[i] = int.class;
        }
        Object got = LentCourage.class.getMethod(name, types).invoke(x, given);
        return ((Number) got).longValue();
    }

    private static void eachCallHasItsRow(String readme) {
        for (Method m : LentCourage.class.getDeclaredMethods()) {
            if (Modifier.isPublic(m.getModifiers())) {
                Pattern row = Pattern.compile("(?m)^\\| [^|]*`" + m.getName() + "\\([a-z, ]*\\)`");
                check.due("a row of the table for " + m.getName(), row.matcher(readme).find() ? 1 : 0, 1);
            }
        }
    }
}
