import java.nio.file.Files;
import java.nio.file.Path;
import java.util.regex.Matcher;
import java.util.regex.Pattern;

/** README.md's example: each call of it is made here, and answers what the README says behind it. */
public final class ReadmeTest {
    private static final Pattern CALL = Pattern.compile("^x\\.(\\w+)\\(([-0-9, ]+)\\); +// (-?[0-9]+)\\b.*$");
    private static final int FEWEST = 8;

    public static void main(String[] args) throws Exception {
        Due due = new Due("readme");
        StepBudgets x = new StepBudgets();
        int found = 0;
        for (String line : Files.readAllLines(Path.of("README.md"))) {
            Matcher matcher = CALL.matcher(line);
            if (matcher.matches()) {
                found++;
                due.is(line, call(x, matcher.group(1), matcher.group(2).split(", *")), Integer.parseInt(matcher.group(3)));
            } else {
                due.is("README.md has a call without its answer: " + line, line.startsWith("x.") ? 1 : 0, 0);
            }
        }
        due.is("README.md has an example", found >= FEWEST ? 1 : 0, 1);
        due.end();
    }

    private static int call(StepBudgets x, String name, String[] numbers) throws Exception {
        Class<?>[] types = new Class<?>[numbers.length];
        Object[] values = new Object[numbers.length];
        for (int i = 0; i < numbers.length; i++) {
            types[i] = int.class;
            values[i] = Integer.valueOf(numbers[i]);
        }
        return (Integer) StepBudgets.class.getMethod(name, types).invoke(x, values);
    }
}
