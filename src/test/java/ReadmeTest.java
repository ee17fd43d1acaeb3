import java.io.IOException;
import java.lang.reflect.Method;
import java.nio.file.Files;
import java.nio.file.Path;
import java.util.regex.Matcher;
import java.util.regex.Pattern;

/** The example in README.md: each call, made in its order, answers the number behind its line. */
public final class ReadmeTest {
    private static final Pattern CALL = Pattern.compile(" *row\\.(\\w+)\\((\\d+(?:, \\d+)*)\\); +// (\\d+).*");
    private static final Checks CHECKS = new Checks();

    private ReadmeTest() {
    }

    public static void main(String[] args) throws IOException, ReflectiveOperationException {
        SplaySequence row = new SplaySequence();
        int made = 0;
        for (String line : Files.readAllLines(Path.of("README.md"))) {
            Matcher call = CALL.matcher(line);
            if (call.matches()) {
                CHECKS.is(0, line.trim(), answer(row, call.group(1), call.group(2).split(", ")),
                        Integer.parseInt(call.group(3)));
                made++;
            }
        }
        CHECKS.is(0, "the example has calls", made > 5 ? 1 : 0, 1);
        CHECKS.end("ReadmeTest");
    }

    private static int answer(SplaySequence row, String name, String[] written) throws ReflectiveOperationException {
        Class<?>[] kinds = new Class<?>[written.length];
        Object[] given = new Object[written.length];
        for (int at = 0; at < written.length; at++) {
            kinds[at] = int.class;
            given[at] = Integer.parseInt(written[at]);
        }
        Method method = SplaySequence.class.getMethod(name, kinds);
        return (Integer) method.invoke(row, given);
    }
}
