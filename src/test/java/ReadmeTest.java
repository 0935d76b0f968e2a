import java.lang.reflect.Method;
import java.nio.file.Files;
import java.nio.file.Path;
import java.util.regex.Matcher;
import java.util.regex.Pattern;

/** The calls in README.md answer what is written behind them. */
public final class ReadmeTest {
    private static final Pattern CALL = Pattern.compile("skin\\.(\\w+)\\((.*)\\);\\s+// (true|false|-?\\d+)\\b.*");

    public static void main(String[] args) throws Exception {
        ScrapedSkin skin = new ScrapedSkin();
        int calls = 0;
        int lines = 0;
        for (String line : Files.readAllLines(Path.of("README.md"))) {
            Matcher call = CALL.matcher(line);
            lines += line.startsWith("skin.") ? 1 : 0;
            if (call.matches()) {
                calls++;
                Checks.same(line, answer(skin, call.group(1), call.group(2)), number(call.group(3)));
            }
        }
        Checks.same("every call tells its answer", calls, lines);
        Checks.holds("there are calls", calls >= 20);
        Checks.end();
    }

    private static long answer(ScrapedSkin skin, String name, String told) throws Exception {
        String[] texts = told.isEmpty() ? new String[0] : told.split(", ");
        Class<?>[] types = new Class<?>[texts.length];
        Object[] values = new Object[texts.length];
        for (int i = 0; i < texts.length; i++) {
            types[i] = int.class;
            values[i] = Integer.decode(texts[i]);
        }
        Method method = ScrapedSkin.class.getMethod(name, types);
        return number(method.invoke(skin, values).toString());
    }

    private static long number(String told) {
        return told.equals("true") ? 1 : told.equals("false") ? 0 : Long.parseLong(told);
    }
}
