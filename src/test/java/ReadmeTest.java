import java.lang.reflect.Method;
import java.nio.file.Files;
import java.nio.file.Path;
import java.util.regex.Matcher;
import java.util.regex.Pattern;

/** The calls that README.md shows, in their order on one bench, answer what stands behind them. */
public final class ReadmeTest {
    private static final Check check = new Check("ReadmeTest");
    private static final Pattern SHOWN =
        Pattern.compile("(?m)^bench\\.(\\w+)\\(([^)]*)\\);\\s*// (-?\\d+|[A-Z]+)\\b");

    public static void main(String[] args) throws Exception {
        String text = Files.readString(Path.of("README.md"));
        RatioStreams bench = new RatioStreams();
        Matcher shown = SHOWN.matcher(text);
        int calls = 0;
        while (shown.find()) {
            check.due(shown.group(1) + "(" + shown.group(2) + ")",
                answer(bench, shown.group(1), shown.group(2).split(",\\s*")), due(shown.group(3)));
            calls++;
        }
        check.due("calls that are read", calls, text.lines().filter(line -> line.startsWith("bench.")).count());
        check.due("there are some", calls > 0 ? 1 : 0, 1);
        check.end();
    }

    private static long due(String word) throws Exception {
        boolean named = Character.isUpperCase(word.charAt(0));
        return named ? RatioStreams.class.getField(word).getLong(null) : Long.parseLong(word);
    }

    private static long answer(RatioStreams bench, String name, String[] words) throws Exception {
        for (Method m : RatioStreams.class.getMethods()) {
            if (m.getName().equals(name)) {
                Object[] values = new Object[words.length];
                for (int i = 0; i < words.length; i++) {
                    boolean small = m.getParameterTypes()[i] == int.class;
                    values[i] = small ? (Object) Integer.valueOf(words[i]) : (Object) Long.valueOf(words[i]);
                }
                return (Long) m.invoke(bench, values);
            }
        }
        throw new IllegalStateException("no call " + name);
    }
}
