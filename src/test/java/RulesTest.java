import java.lang.reflect.Field;
import java.lang.reflect.Method;
import java.lang.reflect.Modifier;
import java.nio.file.Files;
import java.nio.file.Path;
import java.util.Arrays;
import java.util.Random;
import java.util.TreeSet;
import java.util.regex.Matcher;
import java.util.regex.Pattern;

/** The face of the class, some rules of LANGUAGE.md, and that no call ever throws. */
public final class RulesTest {
    private static final String[] FACE = {"int feed(int,int,int,int,int)", "int load(int)", "int told(int)",
        "int count(int)", "boolean input(int,int)", "int run(int)", "int ran(int)", "int out(int)", "int word(int)",
        "boolean quiet()", "boolean poke(int,int)", "int peek(int)", "boolean set(int,int)", "int get(int)",
        "boolean start(int)", "int go(int)", "int state(int)", "long trail()"};
    private static final Bench bench = new Bench();

    public static void main(String[] args) throws Exception {
        face();
        source();
        room();
        noCallThrows();
        sameAnswers();
        bench.end("RulesTest");
    }

    private static void face() throws Exception {
        TreeSet<String> found = new TreeSet<>();
        for (Method m : QuietDesk.class.getDeclaredMethods()) {
            if (!Modifier.isPrivate(m.getModifiers()) && !m.isSynthetic()) {
                bench.due(m + " is public and of the object", m.getModifiers(), Modifier.PUBLIC);
                String types = Arrays.toString(m.getParameterTypes()).replaceAll("[\\[\\] ]", "");
                found.add(m.getReturnType() + " " + m.getName() + "(" + types + ")");
            }
        }
        bench.due("the methods " + found, found.equals(new TreeSet<>(Arrays.asList(FACE))), true);
        bench.due("the class is public and final", QuietDesk.class.getModifiers(), Modifier.PUBLIC | Modifier.FINAL);
        bench.due("one constructor", QuietDesk.class.getDeclaredConstructors().length, 1);
        bench.due("it is public", QuietDesk.class.getConstructor().getModifiers(), Modifier.PUBLIC);
        for (Field f : QuietDesk.class.getDeclaredFields()) {
            if (f.getName().equals("NONE")) {
                bench.due("NONE", f.getInt(null), -1);
                bench.due("NONE", f.getModifiers(), Modifier.PUBLIC | Modifier.STATIC | Modifier.FINAL);
            } else {
                bench.due(f + " is private", Modifier.isPrivate(f.getModifiers()), true);
            }
        }
        for (Class<?> c : QuietDesk.class.getDeclaredClasses()) {
            bench.due(c + " is static", Modifier.isStatic(c.getModifiers()), true);
            bench.due(c + " is not public", Modifier.isPublic(c.getModifiers()), false);
            int fields = 0;
            for (Field f : c.getDeclaredFields()) {
                fields += Modifier.isStatic(f.getModifiers()) ? 0 : 1;
                boolean changes = Modifier.isStatic(f.getModifiers()) && !Modifier.isFinal(f.getModifiers());
                bench.due(f + " is no static state", changes, false);
            }
            bench.due(c + " has few fields", fields <= 22, true);
            for (Method m : c.getDeclaredMethods()) {
                bench.due(m + " takes few parameters", m.getParameterCount() <= 7, true);
                for (String face : FACE) {
                    boolean same = Modifier.isPrivate(m.getModifiers()) && face.contains(" " + m.getName() + "(");
                    bench.due(m + " has a name of its own", same, false);
                }
            }
        }
        bench.due("few classes", QuietDesk.class.getDeclaredClasses().length <= 13, true);
    }

    private static void source() throws Exception {
        String text = Files.readString(Path.of("src/main/java/QuietDesk.java"));
        String code = text.replaceAll("(?s)/\\*.*?\\*/", "").replaceAll("//[^\n]*", "").replaceAll("\"[^\"\n]*\"", "\"\"");
        String[] barred = {"\\bthrow\\b", "\\btry\\b", "\\bcatch\\b", "\\bsynchronized\\b", "\\bassert\\b", "->", "::",
            "\\bString\\.format\\b", "\\bSystem\\b(?!\\.arraycopy)", "\\bpackage\\b", "\\bprotected\\b", "Exact\\b",
            "\\bstatic \\{", "\\bimport (?!java\\.util\\.(Arrays|ArrayList|List|Iterator);)"};
        for (String word : barred) {
            Matcher m = Pattern.compile(word).matcher(code);
            bench.due("the source holds " + word, m.find(), false);
        }
        int open = 0;
        int from = 0;
        String[] lines = text.split("\n");
        for (int i = 0; i < lines.length; i++) {
            if (lines[i].matches("( {4}| {8})[a-zA-Z].*\\) \\{")) {
                from = i;
                open++;
            }
            if (lines[i].equals("        }") || lines[i].equals("    }")) {
                bench.due("line " + from + " begins a short method", i - from > 60 && lines[i].equals("        }"), false);
            }
        }
        bench.due("methods were found", open > 100, true);
    }

    /** What a new object holds, arrays and all: many of them must fit into the room of one run. */
    private static void room() throws Exception {
        java.util.IdentityHashMap<Object, Boolean> seen = new java.util.IdentityHashMap<>();
        long elements = weigh(new QuietDesk(), seen);
        System.out.println("a new object: " + seen.size() + " objects and arrays, " + elements + " fields and elements");
        bench.due("few objects", seen.size() * 64 < 600_000, true);
        bench.due("few elements", elements * 64 < 7_300_000, true);
        QuietDesk x = new QuietDesk();
        Bench.load(x, "pub in a;sec in k;" + "if(k){k=a+k;}".repeat(229));
        seen.clear();
        System.out.println("with a program of 3000 bytes: " + weigh(x, seen) + " fields and elements");
    }

    private static long weigh(Object o, java.util.IdentityHashMap<Object, Boolean> seen) throws Exception {
        if (o == null || seen.put(o, true) != null) {
            return 0;
        }
        if (o.getClass().isArray()) {
            return java.lang.reflect.Array.getLength(o);
        }
        long sum = 0;
        for (Field f : o.getClass().getDeclaredFields()) {
            if (!Modifier.isStatic(f.getModifiers())) {
                sum++;
                if (!f.getType().isPrimitive()) {
                    f.setAccessible(true);
                    sum += weigh(f.get(o), seen);
                }
            }
        }
        return sum;
    }

    private static long call(QuietDesk x, Random random) {
        int[] edges = {0, 1, 2, 3, -1, 4, 5, 16380, 16384, 2000, 2001, 20, 100, 199, 200, 3000, 3001, Integer.MIN_VALUE,
            Integer.MAX_VALUE};
        int[] v = new int[5];
        for (int i = 0; i < 5; i++) {
            v[i] = random.nextInt(3) == 0 ? random.nextInt() : edges[random.nextInt(edges.length)];
        }
        switch (random.nextInt(20)) {
            case 0:
                return x.feed(v[0], v[1], v[2], v[3], v[4]);
            case 1:
                return x.load(random.nextBoolean() ? v[0] : random.nextInt(40));
            case 2:
                return x.told(v[0]);
            case 3:
                return x.count(v[0]);
            case 4:
                return x.input(v[0], v[1]) ? 1 : 0;
            case 5:
                return x.run(v[0]);
            case 6:
                return x.ran(v[0]);
            case 7:
                return x.out(v[0]);
            case 8:
                return x.word(v[0]);
            case 9:
                return x.quiet() ? 1 : 0;
            case 10:
                return x.poke(v[0], v[1]) ? 1 : 0;
            case 11:
                return x.peek(v[0]);
            case 12:
                return x.set(v[0], v[1]) ? 1 : 0;
            case 13:
                return x.get(v[0]);
            case 14:
                return x.start(v[0]) ? 1 : 0;
            case 15:
                return x.go(v[0]);
            case 16:
                return x.state(v[0]);
            case 17:
                return x.trail();
            default:
                String text = new RandomText(random, 200, 3).program();
                return text.length() > 3000 ? 0 : Bench.load(x, random.nextBoolean() ? text : RandomText.spoilt(random, text));
        }
    }

    private static void noCallThrows() {
        for (int round = 0; round < 300; round++) {
            Random random = new Random(round);
            QuietDesk x = new QuietDesk();
            for (int i = 0; i < 400; i++) {
                call(x, random);
            }
        }
        // Bytes and orders that mean nothing.
        for (int round = 0; round < 2000; round++) {
            Random random = new Random(round);
            QuietDesk x = new QuietDesk();
            int n = 0;
            for (int i = 0; i < 10; i++) {
                n = x.feed(random.nextInt(), random.nextInt(), random.nextInt(), random.nextInt(), random.nextInt());
                x.poke(4 * i, random.nextInt());
            }
            int answer = x.load(random.nextInt(n + 1));
            bench.due("load of nonsense", answer >= -3 && answer <= 0 && answer != -1, true);
            int stop = x.go(20);
            bench.due("go through nonsense", stop >= 0 && stop <= 3, true);
        }
    }

    private static void sameAnswers() {
        for (int round = 0; round < 100; round++) {
            Random one = new Random(round);
            Random other = new Random(round);
            QuietDesk x = new QuietDesk();
            QuietDesk y = new QuietDesk();
            for (int i = 0; i < 300; i++) {
                bench.due("the same calls have the same answers", call(x, one), call(y, other));
            }
        }
    }
}
