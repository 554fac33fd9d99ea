import java.lang.reflect.InvocationTargetException;
import java.lang.reflect.Method;
import java.lang.reflect.Modifier;
import java.nio.charset.StandardCharsets;
import java.util.Arrays;
import java.util.Comparator;

/** What the tests share: counting wrong answers, and feeding texts. */
final class Bench {
    private int asked;
    private int wrong;
    private String test = "";

    void due(String call, long got, long want) {
        asked++;
        if (got != want) {
            wrong++;
            if (wrong <= 40) {
                System.out.println(test + call + " answered " + got + ", due is " + want);
            }
        }
    }

    void due(String call, boolean got, boolean want) {
        due(call, got ? 1 : 0, want ? 1 : 0);
    }

    int wrong() {
        return wrong;
    }

    /** Runs every static method of a test that takes nothing, so that none can be forgotten. */
    void every(Class<?> tests) {
        Method[] methods = tests.getDeclaredMethods();
        Arrays.sort(methods, Comparator.comparing(Method::getName));
        for (Method m : methods) {
            if (Modifier.isStatic(m.getModifiers()) && m.getParameterCount() == 0 && !m.isSynthetic()) {
                test = m.getName() + ": ";
                int before = asked;
                runOne(m);
                due("it asks something", asked > before, true);
            }
        }
        test = "";
    }

    private void runOne(Method m) {
        try {
            m.setAccessible(true);
            m.invoke(null);
        } catch (InvocationTargetException e) {
            due("threw " + e.getCause(), true, false);
        } catch (IllegalAccessException e) {
            due("could not be run", true, false);
        }
    }

    void end(String name) {
        System.out.println(name + ": " + asked + " answers, " + wrong + " not as due");
        if (wrong != 0) {
            System.exit(1);
        }
    }

    /** load() of a text on a new object, and what is told of it. */
    void loads(String text, int answer, int place, int number) {
        QuietDesk x = new QuietDesk();
        String shown = text.length() > 300 ? text.substring(0, 300) + ".." : text;
        due("load of " + shown, load(x, text), answer);
        due("told(0) of " + shown, x.told(0), place);
        due("told(1) of " + shown, x.told(1), number);
    }

    void right(String text) {
        loads(text, 0, QuietDesk.NONE, QuietDesk.NONE);
    }

    void fault(String text, int place) {
        loads(text, -2, place, 0);
    }

    /** The place of the fault is marked by a # in the text. */
    void fault(String text) {
        fault(text.replace("#", ""), text.indexOf('#'));
    }

    /** The place of what is wrong is marked by a # in the text. */
    void wrong(int number, String text) {
        loads(text.replace("#", ""), -3, text.indexOf('#'), number);
    }

    /** A right program, run once with so many steps, and how it must end. */
    QuietDesk ran(String text, int steps, int end) {
        QuietDesk x = new QuietDesk();
        due("load of " + text, load(x, text), 0);
        due("run of " + text, x.run(steps), end);
        return x;
    }

    /** Feeds a text, filled up with blanks to a multiple of twenty bytes; answers its length. */
    static int feed(QuietDesk desk, String text) {
        byte[] bytes = text.getBytes(StandardCharsets.ISO_8859_1);
        for (int from = 0; from < bytes.length; from += 20) {
            int[] five = new int[5];
            for (int i = 0; i < 20; i++) {
                int b = from + i < bytes.length ? bytes[from + i] & 255 : 32;
                five[i / 4] = five[i / 4] << 8 | b;
            }
            desk.feed(five[0], five[1], five[2], five[3], five[4]);
        }
        return bytes.length;
    }

    static int load(QuietDesk desk, String text) {
        return desk.load(feed(desk, text));
    }

    static QuietDesk loaded(String text) {
        QuietDesk desk = new QuietDesk();
        load(desk, text);
        return desk;
    }
}
