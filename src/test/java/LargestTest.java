import java.util.Random;

/** Programs as large, as dense and as deep as they can be, against the reference. */
public final class LargestTest {
    private static final ReferenceGrammar GRAMMAR = new ReferenceGrammar();
    private static final Bench bench = new Bench();
    private static final String HEAD = "pub a;pub in b;sec in k;pub in r[16];sec in s[16];";

    public static void main(String[] args) {
        int rounds = args.length > 0 ? Integer.parseInt(args[0]) : 300;
        long seed = args.length > 1 ? Long.parseLong(args[1]) : 1;
        String[] statements = {"a=a;", "a=-a;", "k=k;", "a=4096;", "r[b]=r[a];", "r[r[b]]=b;", "r[0]=0;", "s[b]=s[1]+k;",
            "if(a){}", "if(k){}", "if(k){k=k;}", "if(k){k=k;}else{k=-k;}", "if(b){}else{a=b;}", "while(a){}", "out a;",
            "out-a;", "a=a==a;", "a=a<=b;", "a=r[r[r[r[r[b]]]]];", "k=s[b]|s[b]^s[b]&s[b]<s[b]<<s[b]+s[b]*s[b];"};
        for (String s : statements) {
            repeated("repeated " + s, HEAD, s, "");
            repeated("hidden " + s, HEAD + "if(k){", s, "}");
        }
        String[] chains = {"+a", "==a", "<=a", "<<a", "+r[b]", "*r[r[b]]", "/a", "%7", "-2048", "|-a", "^!a", "&~a", "+r[0]",
            "+s[b]", "-9", "+1", "*4095", "<2047", "+r[99]"};
        for (String c : chains) {
            repeated("chain of " + c, HEAD + "k=b", c, ";");
        }
        deep("a|a^a&a<a<<a+a*(", "b", ")");
        deep("-a|-a^-a&-a<-a<<-a+-a*(", "b", ")");
        deep("a+b|a+b^a+b&a+b<a+b<<a+a*b+(", "b", ")");
        deep("r[1]|r[b]^r[2]&r[b]<r[3]<<r[b]+r[4]*(", "r[5]", ")");
        deep("r[b]|r[b]^r[b]&r[b]<=r[b]<<r[b]+r[b]*r[", "r[b]", "]");
        deep("(a+b)*(r[b]-", "b", ")");
        deep("-", "b", "");
        deep("!r[", "b", "]");
        rows();
        for (int i = 0; i < rounds && bench.wrong() == 0; i++) {
            dense(i, new Random(seed * 31 + i));
            waiting(i, new Random(seed * 37 + i));
        }
        bench.end("LargestTest");
    }

    private static void repeated(String name, String head, String part, String tail) {
        StringBuilder text = new StringBuilder(head);
        while (text.length() + part.length() + tail.length() <= 3000) {
            text.append(part);
        }
        compare(name, text.append(tail).toString(), new Random(5));
    }

    /** Every depth of a nest, up to what must be refused, and the deepest right one again and again. */
    private static void deep(String open, String inner, String close) {
        String deepest = "";
        for (int depth = 0; depth <= 32; depth++) {
            String expr = open.repeat(depth) + inner + close.repeat(depth);
            String text = HEAD + "k=" + expr + ";";
            if (text.length() <= 3000) {
                compare("deep " + depth + " " + open, text, new Random(depth));
                if (GRAMMAR.fault(text) < 0) {
                    deepest = "k=" + expr + ";";
                }
            }
        }
        repeated("deepest " + open, HEAD, deepest, "");
    }

    /** As many rows as there can be, each one read and written. */
    private static void rows() {
        StringBuilder text = new StringBuilder("pub in i;");
        for (int row = 0; row < 199; row++) {
            text.append("pub ").append(rowName(row)).append("[1];");
        }
        for (int row = 0; text.length() < 2975; row += 7) {
            String name = rowName(row % 199);
            text.append(name).append("[i]=").append(name).append("[i]+").append(row).append(';');
        }
        compare("rows", text.toString(), new Random(7));
        compare("rows, the last", text + rowName(198) + "[0]=1;", new Random(7));
        compare("a row too many", text.toString().replace("pub in i;", "pub in i;sec x[2];"), new Random(7));
    }

    private static String rowName(int row) {
        String letters = "ABCDEFGHIJKLMNOPQRSTUVWXYZabcdefghjklmnopqrstuvwxyz";
        String first = "" + letters.charAt(row % letters.length());
        return row < letters.length() ? first : first + row / letters.length();
    }

    private static void dense(int round, Random random) {
        StringBuilder text = new StringBuilder(HEAD);
        int most = 200 + random.nextInt(2700);
        while (text.length() < most) {
            int mark = text.length();
            text.append(random.nextBoolean() ? "k=" : "a=");
            boolean open = text.charAt(mark) == 'a';
            expr(text, random, random.nextInt(31), open, random.nextInt(10));
            text.append(";");
            if (text.length() > 3000) {
                text.setLength(mark);
                break;
            }
        }
        compare("dense " + round, text.toString(), random);
    }

    private static void expr(StringBuilder text, Random random, int depth, boolean open, int rowsOfTen) {
        String[] signs = {"|", "^", "&", "==", "<", "<=", "<<", ">>", "+", "-", "*"};
        int parts = 1 + random.nextInt(random.nextInt(8) == 0 ? 14 : 4);
        int way = random.nextInt(parts);
        for (int i = 0; i < parts; i++) {
            text.append(i == 0 ? "" : signs[random.nextInt(signs.length)]);
            if (i == way && depth > 1) {
                String around = random.nextInt(10) < rowsOfTen ? open ? "r[]" : "s[]" : random.nextInt(3) == 0 ? "-" : "()";
                text.append(around.length() == 3 ? around.substring(0, 2) : around.charAt(0));
                boolean index = around.length() == 3;
                expr(text, random, depth - 2, open || index, rowsOfTen);
                if (index && random.nextInt(20) != 0) {
                    text.append("&15");
                }
                text.append(around.equals("-") ? "" : around.substring(around.length() - 1));
            } else {
                leaf(text, random, open, rowsOfTen);
            }
        }
    }

    /** Expressions in which as many left parts as can be, each one another number, wait for what is right of them. */
    private static void waiting(int round, Random random) {
        StringBuilder text = new StringBuilder(HEAD);
        for (int i = 0; i < 16; i++) {
            int mark = text.length();
            text.append("r[").append(i).append("]=");
            int deepest = 1 + random.nextInt(30);
            int opened = 0;
            for (int depth = 4; depth <= deepest; depth += 2) {
                waitingParts(text, random);
                if (random.nextInt(4) == 0) {
                    text.append("-~!".charAt(random.nextInt(3)));
                    depth++;
                }
                text.append('(');
                opened++;
            }
            text.append('b').append(")".repeat(opened)).append(';');
            if (text.length() > 3000) {
                text.setLength(mark);
            }
        }
        compare("waiting " + round, text.toString(), random);
    }

    private static void waitingParts(StringBuilder text, Random random) {
        String[][] levels = {{"|"}, {"^"}, {"&"}, {"==", "<", "<="}, {"<<", ">>"}, {"+", "-"}, {"*"}};
        // What loses most of the right part's bits stands there more seldom.
        int[] ofTen = {7, 9, 5, 2, 4, 9, 8};
        for (int level = 0; level < levels.length; level++) {
            if (random.nextInt(10) < ofTen[level]) {
                text.append(random.nextInt(4) == 0 ? "~b" : "" + random.nextInt(100));
                text.append(levels[level][random.nextInt(levels[level].length)]);
            }
        }
    }

    private static void leaf(StringBuilder text, Random random, boolean open, int rowsOfTen) {
        if (random.nextInt(10) < rowsOfTen) {
            text.append(open || random.nextBoolean() ? "r[" : "s[");
            text.append(random.nextInt(3) == 0 ? "b" : "" + random.nextInt(random.nextInt(90) == 0 ? 20 : 16)).append("]");
        } else if (random.nextInt(4) == 0) {
            text.append(random.nextInt(5000));
        } else {
            text.append("~-!".substring(random.nextInt(3)).charAt(0)).append(open ? "ab".charAt(random.nextInt(2)) : 'k');
        }
    }

    private static void compare(String name, String text, Random random) {
        QuietDesk desk = new QuietDesk();
        int n = Bench.feed(desk, text);
        int fault = GRAMMAR.fault(text);
        int number = 0;
        int place = fault;
        ReferenceProgram reference = null;
        if (fault < 0) {
            try {
                reference = new ReferenceProgram(text);
            } catch (ReferenceProgram.Wrong wrong) {
                number = wrong.number;
                place = wrong.place;
            }
        }
        int before = bench.wrong();
        bench.due(name + " load", desk.load(n), fault >= 0 ? -2 : reference == null ? -3 : 0);
        bench.due(name + " told(0)", desk.told(0), place);
        bench.due(name + " told(1)", desk.told(1), place < 0 ? -1 : number);
        for (int i = 0; i < 4 && reference != null; i++) {
            int steps = new int[] {2000, 2000, 50, 50}[i];
            for (int k = 0; k < reference.inputs.length; k++) {
                if (i % 2 == 0 || reference.inputSecret.get(k)) {
                    reference.inputs[k] = random.nextInt(3) == 0 ? random.nextInt() : random.nextInt(16);
                    desk.input(k, reference.inputs[k]);
                }
            }
            bench.due(name + " run", desk.run(steps), reference.run(steps));
            bench.due(name + " ran(0)", desk.ran(0), reference.endPlace);
            bench.due(name + " ran(1)", desk.ran(1), reference.steps);
            bench.due(name + " ran(2)", desk.ran(2), reference.told.size());
            // Of many words only some, as more calls than 512 are not promised.
            int stride = reference.words / 50 + 1;
            for (int k = i % stride; k < reference.words; k += stride) {
                bench.due(name + " word(" + k + ")", desk.word(k), reference.memory[k]);
            }
            bench.due(name + " quiet()", desk.quiet(), true);
        }
        if (bench.wrong() > before) {
            System.out.println(text);
        }
    }
}
