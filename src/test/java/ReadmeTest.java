import java.lang.reflect.Method;
import java.nio.file.Files;
import java.nio.file.Path;
import java.util.regex.Matcher;
import java.util.regex.Pattern;

/** The calls that README.md shows answer what stands behind them. */
public final class ReadmeTest {
    private static final Pattern CALL = Pattern.compile("x\\.(\\w+)\\(([^)]*)\\);\\s+// (true|false|-?\\d+)(:.*)?");

    private ReadmeTest() {
    }

    public static void main(String[] args) throws Exception {
        HeavierServes x = new HeavierServes();
        int lines = 0;
        for (String line : Files.readAllLines(Path.of("README.md"))) {
            if (line.startsWith("x.")) {
                Matcher m = CALL.matcher(line);
                Check.yes("a call with its answer: " + line, m.matches());
                String got = m.matches() ? answer(x, m.group(1), m.group(2)) : "";
                Check.yes(line + " answered " + got, m.matches() && got.equals(m.group(3)));
                lines++;
            }
        }
        Check.yes("README.md shows calls", lines >= 10);
        Check.close();
    }

    private static String answer(HeavierServes x, String name, String given) throws Exception {
        String[] texts = given.isEmpty() ? new String[0] : given.split(", ");
        Object[] numbers = new Object[texts.length];
        for (int k = 0; k < texts.length; k++) {
            numbers[k] = Integer.decode(texts[k]);
        }
        for (Method m : HeavierServes.class.getDeclaredMethods()) {
            if (m.getName().equals(name)) {
                return String.valueOf(m.invoke(x, numbers));
            }
        }
        return "nothing";
    }
}
