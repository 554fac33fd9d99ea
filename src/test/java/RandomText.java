import java.util.ArrayList;
import java.util.List;
import java.util.Random;

/** Random programs: right ones, ones with something wrong, and spoilt ones. */
final class RandomText {
    private final Random random;
    private final List<String> publicSingles = new ArrayList<>();
    private final List<String> secretSingles = new ArrayList<>();
    private final List<String> publicRows = new ArrayList<>();
    private final List<String> secretRows = new ArrayList<>();
    private final StringBuilder text = new StringBuilder();
    private final int most;
    /** Of a hundred choices, how many are made without care for what is wrong. */
    private final int careless;

    RandomText(Random random, int most, int careless) {
        this.random = random;
        this.most = most;
        this.careless = careless;
    }

    static String spoilt(Random random, String text) {
        String bits = "()[]{};=+-*/%&|^~!<>ab09_ \n\0\u00e9";
        String[] words = {"pub ", "sec ", "in ", "out ", "if (", "else {", "while (", "<=", "==", "00", "2147483648",
            "9x", "abcdefghijk", "{", "}", ";", "] = ", "if"};
        StringBuilder s = new StringBuilder(text);
        for (int i = random.nextInt(3); i >= 0; i--) {
            int place = random.nextInt(s.length() + 1);
            int end = Math.min(s.length(), place + random.nextInt(4));
            switch (random.nextInt(4)) {
                case 0:
                    s.replace(place, end, "" + bits.charAt(random.nextInt(bits.length())));
                    break;
                case 1:
                    s.insert(place, words[random.nextInt(words.length)]);
                    break;
                case 2:
                    s.delete(place, end);
                    break;
                default:
                    s.setLength(place);
                    break;
            }
        }
        return s.toString();
    }

    String program() {
        int number = random.nextInt(9);
        for (int i = 0; i < number; i++) {
            declaration(i);
        }
        int count = 1 + random.nextInt(8);
        for (int i = 0; i < count; i++) {
            statement(0, false);
        }
        return text.toString();
    }

    private boolean chance(int ofHundred) {
        return random.nextInt(100) < ofHundred;
    }

    private void declaration(int i) {
        boolean secret = chance(55);
        boolean row = chance(40);
        String name = chance(careless / 4) ? "x0" : "x" + i;
        text.append(secret ? "sec " : "pub ").append(chance(50) ? "in " : "").append(name);
        if (row) {
            int length = chance(careless / 4) ? random.nextInt(70) : 1 + random.nextInt(5);
            text.append("[").append(length).append("]");
            (secret ? secretRows : publicRows).add(name);
        } else {
            (secret ? secretSingles : publicSingles).add(name);
        }
        text.append(chance(20) ? " ;\n" : ";");
    }

    private String oneOf(List<String> list) {
        return list.isEmpty() ? null : list.get(random.nextInt(list.size()));
    }

    private String anyName() {
        List<String> all = new ArrayList<>(publicSingles);
        all.addAll(secretSingles);
        all.addAll(publicRows);
        all.addAll(secretRows);
        all.add("nobody");
        return oneOf(all);
    }

    private void statement(int depth, boolean hidden) {
        if (text.length() > most) {
            return;
        }
        int kind = random.nextInt(10);
        if (kind < 5) {
            put(depth, hidden);
        } else if (kind < 8 && depth < 6) {
            boolean secret = hidden ? chance(50) : chance(60);
            text.append("if (");
            expr(secret, hidden, 3);
            text.append(") ");
            block(depth, hidden || secret);
            if (chance(50)) {
                text.append(" else ");
                block(depth, hidden || secret);
            }
        } else if (kind == 8 && depth < 6 && (!hidden || chance(careless))) {
            String name = oneOf(publicSingles);
            text.append("while (");
            if (name != null && chance(70)) {
                text.append(name).append(" < ").append(random.nextInt(8));
            } else {
                expr(chance(careless), hidden, 2);
            }
            text.append(") { ");
            if (name != null) {
                text.append(name).append(" = ").append(name).append(" + 1; ");
            }
            statement(depth + 1, hidden);
            text.append("} ");
        } else if (!hidden || chance(careless)) {
            text.append("out ");
            expr(chance(careless), hidden, 3);
            text.append("; ");
        } else {
            put(depth, hidden);
        }
    }

    private void block(int depth, boolean hidden) {
        text.append("{ ");
        for (int i = random.nextInt(4); i > 0; i--) {
            statement(depth + 1, hidden);
        }
        text.append("}");
    }

    private void put(int depth, boolean hidden) {
        if (chance(careless)) {
            text.append(anyName());
            if (chance(40)) {
                text.append("[");
                expr(chance(30), hidden, 1);
                text.append("]");
            }
            text.append("=");
            expr(chance(50), hidden, 2);
            text.append(";");
            return;
        }
        boolean secret = hidden || chance(50);
        boolean row = !hidden && chance(40);
        String name = oneOf(row ? (secret ? secretRows : publicRows) : (secret ? secretSingles : publicSingles));
        if (name == null) {
            return;
        }
        text.append(name);
        if (row) {
            text.append(chance(20) ? " [" : "[");
            index(hidden);
            text.append("]");
        }
        text.append(" = ");
        expr(secret && chance(70), hidden, 4);
        text.append("; ");
    }

    private void index(boolean hidden) {
        if (chance(60)) {
            text.append(random.nextInt(3));
        } else if (chance(50)) {
            expr(false, hidden, 2);
            text.append(" & 1");
        } else {
            expr(false, hidden, 2);
        }
    }

    private void expr(boolean secret, boolean hidden, int depth) {
        if (depth == 0 || chance(25)) {
            leaf(secret, hidden, depth);
            return;
        }
        if (chance(20)) {
            text.append("-~!".charAt(random.nextInt(3)));
            expr1(secret, hidden, depth);
            return;
        }
        String[] calm = {"|", "^", "&", "==", "<", "<=", "<<", ">>", "+", "-", "*"};
        boolean divides = chance(15) && !hidden && !secret || chance(careless / 4);
        String sign = divides ? (chance(50) ? "/" : "%") : calm[random.nextInt(calm.length)];
        expr1(secret, hidden, depth);
        text.append(chance(50) ? " " + sign + " " : sign);
        expr1(secret, hidden, depth);
    }

    private void expr1(boolean secret, boolean hidden, int depth) {
        boolean around = chance(50);
        text.append(around ? "(" : "");
        expr(secret, hidden, depth - 1);
        text.append(around ? ")" : "");
    }

    private void leaf(boolean secret, boolean hidden, int depth) {
        if (chance(careless / 3)) {
            text.append(anyName());
            return;
        }
        if (chance(30)) {
            int[] numbers = {0, 1, 2, 3, 5, 31, 32, 2047, 2048, 4095, 4096, 65535, 1000000, 2147481600, 2147483647};
            text.append(numbers[random.nextInt(numbers.length)]);
            return;
        }
        boolean fromSecret = secret && chance(60);
        if ((!hidden || chance(careless)) && chance(40)) {
            String row = oneOf(fromSecret ? secretRows : publicRows);
            if (row != null) {
                text.append(row).append(chance(20) ? " [" : "[");
                if (depth > 0 && chance(50)) {
                    index(hidden);
                } else {
                    text.append(random.nextInt(4));
                }
                text.append("]");
                return;
            }
        }
        String single = oneOf(fromSecret ? secretSingles : publicSingles);
        text.append(single == null ? "" + random.nextInt(9) : single);
    }
}
