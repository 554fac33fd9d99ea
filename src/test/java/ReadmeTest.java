import java.lang.reflect.Method;
import java.nio.file.Files;
import java.nio.file.Path;
import java.util.TreeSet;
import java.util.regex.Matcher;
import java.util.regex.Pattern;

/** Makes the calls that stand in README.md, and asks for the answers that stand behind them. */
public final class ReadmeTest {
    private static final Pattern CALL = Pattern.compile("desk\\.(\\w+)\\(([^)]*)\\); *// (true|false|-?\\d+).*");
    private static final Bench bench = new Bench();

    public static void main(String[] args) throws Exception {
        TreeSet<String> asked = new TreeSet<>();
        QuietDesk desk = null;
        boolean within = false;
        for (String line : Files.readAllLines(Path.of("README.md"))) {
            if (line.startsWith("```")) {
                within = line.equals("```java");
            } else if (within && line.equals("QuietDesk desk = new QuietDesk();")) {
                desk = new QuietDesk();
            } else if (within) {
                asked.add(ask(desk, line));
            }
        }
        for (Method m : QuietDesk.class.getDeclaredMethods()) {
            bench.due(m.getName() + " is shown", asked.contains(m.getName()), true);
        }
        bench.end("ReadmeTest");
    }

    /** The name of the call of this line. */
    private static String ask(QuietDesk desk, String line) throws Exception {
        Matcher m = CALL.matcher(line);
        boolean isCall = m.matches() && desk != null;
        bench.due("a call with its answer is " + line, isCall, true);
        if (!isCall) {
            return "";
        }
        bench.due(line, answer(desk, m.group(1), m.group(2)).equals(m.group(3)), true);
        return m.group(1);
    }

    private static String answer(QuietDesk desk, String name, String numbers) throws Exception {
        String[] texts = numbers.isEmpty() ? new String[0] : numbers.split(", ");
        Object[] given = new Object[texts.length];
        Class<?>[] types = new Class<?>[texts.length];
        for (int i = 0; i < texts.length; i++) {
            given[i] = Integer.decode(texts[i]);
            types[i] = int.class;
        }
        return String.valueOf(QuietDesk.class.getMethod(name, types).invoke(desk, given));
    }
}
