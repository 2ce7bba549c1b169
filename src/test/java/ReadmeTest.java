import java.io.IOException;
import java.lang.reflect.Method;
import java.nio.file.Files;
import java.nio.file.Path;
import java.util.Arrays;
import java.util.regex.Matcher;
import java.util.regex.Pattern;

/** The calls that README.md shows answer what stands behind them there. */
final class ReadmeTest {
    private static final Pattern SHOWN = Pattern.compile("town\\.(\\w+)\\((.*)\\); +// (-?\\d+|true|false)");

    public static void main(String[] args) throws IOException, ReflectiveOperationException {
        RagTown town = new RagTown();
        int shown = 0;
        for (String line : Files.readAllLines(Path.of("README.md"))) {
            Matcher call = SHOWN.matcher(line);
            if (call.find()) {
                shown++;
                String got = String.valueOf(answer(town, call.group(1), call.group(2)));
                Check.yes(line + " answers " + got, got.equals(call.group(3)));
            } else {
                Check.no("a call without an answer: " + line, line.startsWith("town."));
            }
        }
        Check.yes("calls are shown", shown >= 20);
        Check.finish();
    }

    private static Object answer(RagTown town, String name, String numbers) throws ReflectiveOperationException {
        Object[] given = Arrays.stream(numbers.split(", "))
            .map(word -> word.equals("RagTown.NONE") ? Integer.valueOf(RagTown.NONE) : Integer.decode(word)).toArray();
        Class<?>[] types = new Class<?>[given.length];
        Arrays.fill(types, int.class);
        Method method = RagTown.class.getMethod(name, types);
        return method.invoke(town, given);
    }
}
