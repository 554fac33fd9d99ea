/**
 * The boundary cases that the document names for promises 6 to 11, and for the sentences of the Terms
 * that they rest on: MEANING, STEPS, ENDS, INPUTS. One method for each sentence, which stands above it.
 */
public final class RunningEdgesTest {
    private static final int NONE = QuietDesk.NONE;
    private static final int LEAST = Integer.MIN_VALUE;
    private static final int GREATEST = Integer.MAX_VALUE;
    private static final int[] NUMBERS = {0, 1, -1, 2, -2, 3, 7, -7, 31, 32, 33, 63, 64, -31, -32, 2047, 2048, -2048, -2049,
        4096, 65535, 65536, 46341, 0x40000000, 0x7FFFF800, 0x7FFFFFFE, GREATEST, LEAST, LEAST + 1, -65536};
    private static final Bench bench = new Bench();

    public static void main(String[] args) {
        bench.every(RunningEdgesTest.class);
        bench.end("RunningEdgesTest");
    }

    private static void due(String call, long got, long want) {
        bench.due(call, got, want);
    }

    private static void due(String call, boolean got, boolean want) {
        bench.due(call, got, want);
    }

    /** What a run that ended left: its end, its place, its steps, and how many were told. */
    private static void ended(String text, QuietDesk x, int steps, int end, String marked) {
        due("run(" + steps + ") of " + text, x.run(steps), end);
        due("ran(0) of " + text, x.ran(0), marked.indexOf('#'));
    }

    /** The place where it must end is marked by a #; ran(1) is asked too. */
    private static QuietDesk ends(String marked, int steps, int end, int stepsDone) {
        String text = marked.replace("#", "");
        QuietDesk x = new QuietDesk();
        due("load of " + text, Bench.load(x, text), 0);
        ended(text, x, steps, end, marked);
        due("ran(1) of " + text, x.ran(1), stepsDone);
        return x;
    }

    private static String number(int v) {
        return v == LEAST ? "(-2147483647-1)" : v < 0 ? "(-" + -v + ")" : "" + v;
    }

    /** Every pair of numbers, by inputs and as they stand in the text, public and secret. */
    private static void pairs(String sign, java.util.function.IntBinaryOperator meaning, boolean secretToo) {
        String[] levels = secretToo ? new String[] {"pub", "sec"} : new String[] {"pub"};
        for (String level : levels) {
            QuietDesk x = Bench.loaded(level + " in a;" + level + " in b;" + level + " c;c=a" + sign + "b;");
            int calls = 0;
            for (int a : NUMBERS) {
                for (int b : NUMBERS) {
                    if (calls > 480) {
                        x = Bench.loaded(level + " in a;" + level + " in b;" + level + " c;c=a" + sign + "b;");
                        calls = 0;
                    }
                    calls += 4;
                    x.input(0, a);
                    x.input(1, b);
                    x.run(1);
                    due(level + " " + a + " " + sign + " " + b, x.word(2), meaning.applyAsInt(a, b));
                }
            }
        }
        for (int a : NUMBERS) {
            StringBuilder text = new StringBuilder("pub c[64];");
            for (int i = 0; i < NUMBERS.length; i++) {
                text.append("c[" + i + "]=" + number(a) + sign + number(NUMBERS[i]) + ";");
            }
            QuietDesk x = bench.ran(text.toString(), 64, 0);
            for (int i = 0; i < NUMBERS.length; i++) {
                due(a + " " + sign + " " + NUMBERS[i] + " in the text", x.word(i), meaning.applyAsInt(a, NUMBERS[i]));
            }
        }
    }

    private static void singles(String sign, java.util.function.IntUnaryOperator meaning) {
        QuietDesk x = Bench.loaded("sec in a;pub in b;sec c;pub d;c=" + sign + "a;d=" + sign + "b;");
        for (int a : NUMBERS) {
            x.input(0, a);
            x.input(1, a);
            x.run(2);
            due("sec " + sign + a, x.word(2), meaning.applyAsInt(a));
            due("pub " + sign + a, x.word(3), meaning.applyAsInt(a));
        }
    }

    // MEANING

    /** "+ - * run over" */
    private static void sumsAndProductsRunOver() {
        pairs("+", (a, b) -> (int) ((long) a + b), true);
        pairs("-", (a, b) -> (int) ((long) a - b), true);
        pairs("*", (a, b) -> java.math.BigInteger.valueOf(a).multiply(java.math.BigInteger.valueOf(b)).intValue(), true);
        singles("-", a -> (int) -(long) a);
        due("the least, turned", bench.ran("pub a;a=-(1<<31);", 1, 0).word(0), LEAST);
    }

    /** "/ towards 0 (by 0: -1; the least by -1: the least)" */
    private static void divisionsByZeroAndOfTheLeast() {
        pairs("/", (a, b) -> b == 0 ? -1 : (int) ((long) a / b), false);
        due("0 / 0", bench.ran("pub a;a=0/0;", 1, 0).word(0), -1);
        due("the least by 0", bench.ran("pub a;a=(1<<31)/0;", 1, 0).word(0), -1);
        due("the least by -1", bench.ran("pub a;a=(1<<31)/-1;", 1, 0).word(0), LEAST);
        due("-7 / 2", bench.ran("pub a;a=-7/2;", 1, 0).word(0), -3);
    }

    /** "% with the sign of the left part (by 0: the left part; the least by -1: 0)" */
    private static void restsByZeroAndOfTheLeast() {
        pairs("%", (a, b) -> b == 0 ? a : (int) ((long) a % b), false);
        due("-7 % 0", bench.ran("pub a;a=-7%0;", 1, 0).word(0), -7);
        due("the least % 0", bench.ran("pub a;a=(1<<31)%0;", 1, 0).word(0), LEAST);
        due("the least % -1", bench.ran("pub a;a=(1<<31)%-1;", 1, 0).word(0), 0);
        due("-7 % 2", bench.ran("pub a;a=-7%2;", 1, 0).word(0), -1);
        due("7 % -2", bench.ran("pub a;a=7%-2;", 1, 0).word(0), 1);
    }

    /** "& | ^ ~ by bits" */
    private static void bits() {
        pairs("&", (a, b) -> a & b, true);
        pairs("|", (a, b) -> a | b, true);
        pairs("^", (a, b) -> a ^ b, true);
        singles("~", a -> -1 - a);
    }

    /** "! is 1 for 0, else 0" */
    private static void not() {
        singles("!", a -> a == 0 ? 1 : 0);
    }

    /** "== < <= are 1 or 0": with signs, also where the difference runs over. */
    private static void comparisonsWithSigns() {
        pairs("==", (a, b) -> a == b ? 1 : 0, true);
        pairs("<", (a, b) -> a < b ? 1 : 0, true);
        pairs("<=", (a, b) -> a <= b ? 1 : 0, true);
    }

    /** "<< and >> by the right part's last five bits, >> keeps the sign" */
    private static void shiftsByFiveBits() {
        pairs("<<", (a, b) -> (int) ((long) a << (b & 31)), true);
        pairs(">>", (a, b) -> (int) Math.floorDiv((long) a, 1L << (b & 31)), true);
        for (int b = -40; b <= 70; b++) {
            due("1 << " + b, bench.ran("pub a;a=1<<" + number(b) + ";", 1, 0).word(0), (int) (1L << Math.floorMod(b, 32)));
        }
    }

    private static int level(String sign) {
        String[] levels = {"|", "^", "&", "== < <=", "<< >>", "+ -", "* / %"};
        for (int i = 0; i < levels.length; i++) {
            if (java.util.Arrays.asList(levels[i].split(" ")).contains(sign)) {
                return i;
            }
        }
        return -1;
    }

    private static int join(int a, String sign, int b) {
        switch (sign) {
            case "|":
                return a | b;
            case "^":
                return a ^ b;
            case "&":
                return a & b;
            case "==":
                return a == b ? 1 : 0;
            case "<":
                return a < b ? 1 : 0;
            case "<=":
                return a <= b ? 1 : 0;
            case "<<":
                return a << b;
            case ">>":
                return a >> b;
            case "+":
                return a + b;
            case "-":
                return a - b;
            case "*":
                return a * b;
            case "/":
                return b == 0 ? -1 : a / b;
            default:
                return b == 0 ? a : a % b;
        }
    }

    /** "parts with | between; a part: parts with ^ between; .. (all from the left on)": every pair of signs. */
    private static void signsBindByTheirLevel() {
        String[] signs = {"|", "^", "&", "==", "<", "<=", "<<", ">>", "+", "-", "*", "/", "%"};
        int[][] numbers = {{6, 3, 2}, {1, 2, 3}, {-5, 3, 1}, {0, 0, 1}, {12, 5, 0}, {7, 7, 7}, {100, -3, 4}, {2, 9, 4}};
        for (String one : signs) {
            for (String other : signs) {
                QuietDesk x = Bench.loaded("pub in a;pub in b;pub in c;pub d;pub e;d=a" + one + "b" + other + "c;e=a" + one
                    + "-b" + other + "~c;");
                for (int[] v : numbers) {
                    x.input(0, v[0]);
                    x.input(1, v[1]);
                    x.input(2, v[2]);
                    due("run", x.run(2), 0);
                    String name = v[0] + one + v[1] + other + v[2];
                    due(name, x.word(3), joined(v[0], one, v[1], other, v[2]));
                    due("- and ~ in " + name, x.word(4), joined(v[0], one, -v[1], other, ~v[2]));
                }
            }
        }
    }

    private static int joined(int a, String one, int b, String other, int c) {
        return level(one) >= level(other) ? join(join(a, one, b), other, c) : join(a, one, join(b, other, c));
    }

    /** "all 0 at first but what was put in": in each run anew. */
    private static void wordsAreZeroAtFirst() {
        QuietDesk x = Bench.loaded("pub a;sec r[64];pub in b;sec k;a=a+1;r[63]=r[63]+a;b=b+1;if(b==b){k=k-1;}");
        for (int i = 0; i < 4; i++) {
            due("run", x.run(9), 0);
            due("word(0)", x.word(0), 1);
            due("word(64)", x.word(64), 1);
            due("word(65)", x.word(65), 1);
            due("word(66)", x.word(66), -1);
        }
    }

    /** "if and while do for all but 0" */
    private static void conditionsOfAllButZero() {
        QuietDesk x = Bench.loaded("pub in a;sec in k;pub b;sec c;pub d;if(a){b=1;}else{b=2;}if(k){c=1;}else{c=2;}"
            + "while(a){d=d+1;a=0;}");
        for (int v : NUMBERS) {
            x.input(0, v);
            x.input(1, v);
            due("run", x.run(20), 0);
            due("a public if of " + v, x.word(2), v == 0 ? 2 : 1);
            due("a secret if of " + v, x.word(3), v == 0 ? 2 : 1);
            due("a while of " + v, x.word(4), v == 0 ? 0 : 1);
        }
    }

    /** Secret ifs in one another, of which none, one or all do, and without an else. */
    private static void secretIfsInOneAnother() {
        QuietDesk x = Bench.loaded("sec in a;sec in b;pub in c;sec r;sec s;"
            + "if(a){r=1;if(b){r=r+2;}else{r=r+4;if(c){s=r;}}r=r*10;}else{if(b){r=8;}s=s+1;if(c){s=s-5;}else{s=s+7;}}");
        for (int i = 0; i < 8; i++) {
            int a = i & 1;
            int b = i >> 1 & 1;
            int c = i >> 2;
            x.input(0, -a);
            x.input(1, b << 31);
            x.input(2, c);
            due("run", x.run(1), 0);
            due("ran(1)", x.ran(1), 1);
            int r = a == 1 ? (b == 1 ? 30 : 50) : b == 1 ? 8 : 0;
            int s = a == 1 ? (b == 0 && c == 1 ? 5 : 0) : c == 1 ? -4 : 8;
            due("r with " + i, x.word(3), r);
            due("s with " + i, x.word(4), s);
            due("ran(2), as nothing is told", x.ran(2), 0);
            due("out(0)", x.out(0), 0);
        }
        String deep = "sec in k;sec a;" + "if(k){a=a+1;".repeat(29) + "}".repeat(29);
        x = Bench.loaded(deep);
        due("run", x.run(1), 0);
        due("29 ifs of 0", x.word(1), 0);
        x.input(0, 1);
        due("run", x.run(1), 0);
        due("29 ifs of 1", x.word(1), 29);
    }

    /** With as many words as there can be, nothing but what is named changes. */
    private static void allTheWordsThereCanBe() {
        String text = "sec in a[64];pub in b[64];sec c[64];pub in d[6];sec k;pub i;"
            + "while(i<64){c[i]=(a[i]+b[i])*(a[63-i]-b[63-i]);if(c[i]<k){k=k-1;if(k==0){}else{k=k+3;}}else{k=-k;}i=i+1;}"
            + "d[5]=b[b[0]]+b[b[1]]*(b[2]+b[b[3]]);";
        QuietDesk x = Bench.loaded(text);
        due("count(0)", x.count(0), 200);
        int[] word = new int[200];
        for (int n = 0; n < 134; n++) {
            int v = n >= 64 && n < 68 ? n - 64 : n * 0x01234567 + 5;
            due("input(" + n + ")", x.input(n, v), true);
            word[n < 128 ? n : n + 64] = v;
        }
        due("run", x.run(2000), 0);
        for (int i = 0; i < 64; i++) {
            word[128 + i] = (word[i] + word[64 + i]) * (word[63 - i] - word[127 - i]);
            int k = word[198];
            if (word[128 + i] < k) {
                word[198] = k - 1 == 0 ? 0 : k + 2;
            } else {
                word[198] = -k;
            }
        }
        word[199] = 64;
        word[197] = word[64 + word[64]] + word[64 + word[65]] * (word[66] + word[64 + word[67]]);
        for (int k = 0; k < 200; k++) {
            due("word(" + k + ")", x.word(k), word[k]);
        }
        due("ran(2)", x.ran(2), 0);
    }

    /** "Of NAME [ EXPR ] = EXPR the first EXPR comes first, and is looked at (1) before the other one." */
    private static void theFirstIndexIsLookedAtFirst() {
        ends("pub r[3];pub s[3];r#[3]=s[3];", 9, 1, 1);
        ends("pub r[3];pub s[3];r[s#[3]]=s[4];", 9, 1, 1);
        ends("pub r[3];pub s[3];r[2]=s#[3];", 9, 1, 1);
        QuietDesk x = bench.ran("pub r[3];r[r[0]]=r[0]+5;", 9, 0);
        due("word(0)", x.word(0), 5);
        x = bench.ran("pub r[3];r[0]=1;r[r[0]]=r[0]+r[1];r[1]=r[r[1]]+7;", 9, 0);
        due("word(1)", x.word(1), 8);
    }

    // STEPS

    /** "each statement that is begun .. is one": just enough steps, and one less. */
    private static void eachStatementIsAStep() {
        String[] texts = {"a=1;", "r[0]=1;", "out 1;", "if(0){}", "if(0){a=1;}", "if(1){}else{a=1;}"};
        for (String text : texts) {
            ends("pub a;pub r[2];" + text, 1, 0, 1);
            ends("pub a;pub r[2];#" + text, 0, 2, 0);
            ends("pub a;pub r[2];" + text + "#" + text, 1, 2, 1);
        }
        ends("pub a;if(1){a=1;a=2;}", 3, 0, 3);
        ends("pub a;if(1){a=1;#a=2;}", 2, 2, 2);
        ends("pub a;if(1){#a=1;a=2;}", 1, 2, 1);
        ends("pub a;if(0){}else{a=1;a=2;}", 3, 0, 3);
        ends("pub a;if(0){a=1;a=2;a=3;}a=4;", 2, 0, 2);
        ends("", 0, 0, 0);
        ends("pub a;sec b[3];", 0, 0, 0);
    }

    /** "and each time the EXPR of a while is looked at, is one (while ( a ) { } with a = 0 is two)" */
    private static void eachLookOfAWhileIsAStep() {
        ends("pub a;while(a){}", 2, 0, 2);
        ends("pub a;#while(a){}", 1, 2, 1);
        ends("pub a;#while(a){}", 0, 2, 0);
        ends("pub a;while(a<2){a=a+1;}", 6, 0, 6);
        ends("pub a;#while(a<2){a=a+1;}", 5, 2, 5);
        ends("pub a;while(a<2){#a=a+1;}", 4, 2, 4);
        ends("pub a;#while(a<2){a=a+1;}", 3, 2, 3);
        ends("pub a;while(a<2){#a=a+1;}", 2, 2, 2);
        ends("pub a;#while(1){}", 2000, 2, 2000);
        ends("pub a;#while(1){}", 1999, 2, 1999);
        ends("pub a;while(a<2){while(0){}a=a+1;}", 10, 0, 10);
        ends("pub a;while(a<2){#while(0){}a=a+1;}", 6, 2, 6);
    }

    /** "but an if with a secret EXPR is one with all in it" */
    private static void aSecretIfIsOneStep() {
        String block = "{k=1;k=k+1;if(k){k=5;k=6;}else{}if(1){k=k*2;}}";
        for (int v = 0; v < 2; v++) {
            String text = "sec in k;if(k==" + v + ")" + block + "else" + block;
            ends(text, 1, 0, 1);
            ends(text + "k=1;", 2, 0, 2);
            ends(text + "#k=1;", 1, 2, 1);
            ends(text.replace("if(k=", "#if(k="), 0, 2, 0);
        }
        ends("sec k;if(1){if(k){k=1;}k=2;}", 3, 0, 3);
    }

    /** "A statement in which the run ends by 1 or 3 is counted." */
    private static void theStatementOfTheEndIsCounted() {
        ends("pub a;pub r[2];a=1;a=r#[2];", 9, 1, 2);
        ends("pub a;pub r[2];a=1;r#[2]=1;", 2, 1, 2);
        ends("pub a;pub r[2];a=1;out r#[2];", 2, 1, 2);
        ends("pub a;pub r[2];a=1;if(r#[2]){}", 2, 1, 2);
        ends("sec a;sec r[2];a=1;if(r#[2]){}", 2, 1, 2);
        ends("pub a;pub r[2];a=1;while(r#[2]){}", 3, 1, 3);
        ends("pub a;while(1){#out a;a=a+1;}", 2000, 3, 1 + 3 * 100 + 2);
        ends("pub a;while(1){#out a;a=a+1;}", 1 + 3 * 100 + 2, 3, 1 + 3 * 100 + 2);
    }

    // ENDS

    /** "0 it is through": ran(0) is NONE then, and only then. */
    private static void throughHasNoPlace() {
        QuietDesk x = bench.ran("pub in a;pub r[1];r[a]=1;", 5, 0);
        due("ran(0)", x.ran(0), NONE);
        x.input(0, 1);
        due("run(5)", x.run(5), 1);
        due("ran(0)", x.ran(0), 19);
        x.input(0, 0);
        due("run(5)", x.run(5), 0);
        due("ran(0)", x.ran(0), NONE);
        due("run(0)", x.run(0), 2);
        due("ran(0)", x.ran(0), 18);
    }

    /** "1 an index is not in its row (at the [ )": below, above, and where four times it runs over. */
    private static void indexesNotInTheirRow() {
        for (int length : new int[] {1, 2, 63, 64}) {
            String head = "pub before[2];pub in r[" + length + "];pub after[2];pub in i;pub v;";
            for (String text : new String[] {"v=r#[i];", "r#[i]=7;", "out r#[ i ];", "if(r#[i]){v=1;}", "v=r[0]+r#[i]*2;",
                "while(r #[i]){v=1;}", "r#[i+0]=v/0;"}) {
                String marked = head + text;
                QuietDesk x = Bench.loaded(marked.replace("#", ""));
                int[] out = {-1, -2, length, length + 1, 64, 65, 128, 256, 65536, 0x20000000, 0x3FFFFFFF, 0x40000000,
                    0x40000000 + length - 1, LEAST, LEAST + length - 1, GREATEST, -length, 0xC0000000};
                for (int i : out) {
                    x.input(length, i);
                    ended(marked.replace("#", "") + " with " + i, x, 9, i >= 0 && i < length ? 0 : 1,
                        i >= 0 && i < length ? "" : marked);
                    due("nothing was put", x.word(2 + length - 1) | x.word(0) | x.word(2 + length), 0);
                }
                for (int i : new int[] {0, length - 1}) {
                    x.input(length, i);
                    due("run with " + i + " of " + length, x.run(9), 0);
                }
            }
        }
    }

    /** A single row of one: its first is its last. */
    private static void theRowOfOne() {
        QuietDesk x = bench.ran("pub r[1];pub s[1];r[0]=3;s[r[0]-3]=r[s[0]]+1;", 5, 0);
        due("word(0)", x.word(0), 3);
        due("word(1)", x.word(1), 4);
        ends("pub r[1];pub s[1];r#[1]=3;", 5, 1, 1);
        ends("pub r[1];pub s[1];s#[-1]=3;", 5, 1, 1);
    }

    /** "2 no step is left (at the first token of the statement, or of the while ..)": not at what it puts into. */
    private static void noStepLeft() {
        ends("pub a;  #a=1;", 0, 2, 0);
        ends("pub r[3]; #r [ 1 ]=1;", 0, 2, 0);
        ends("pub a;\n#out 1;", 0, 2, 0);
        ends("pub a;if(1){\n#if ( 1 ) { } else { } }", 1, 2, 1);
        ends("pub a;if(1){ #while ( 1 ) { } }", 1, 2, 1);
        ends("pub a;if(1){ #while ( 1 ) { } }", 2, 2, 2);
        // An index that is not in its row is not looked at without a step.
        ends("pub r[3];#r[3]=1;", 0, 2, 0);
        ends("pub r[3];#while(r[3]){}", 1, 2, 1);
        QuietDesk x = ends("pub a;a=1;a=2;#a=3;", 2, 2, 2);
        due("what was done before stays", x.word(0), 2);
    }

    /** "3 out a 101st time (at out, behind its EXPR)" */
    private static void outA101stTime() {
        QuietDesk x = bench.ran("pub a;while(a<100){out a;a=a+1;}", 2000, 0);
        due("ran(2)", x.ran(2), 100);
        due("out(99)", x.out(99), 99);
        x = ends("pub a;while(a<101){#out a+5;a=a+1;}", 2000, 3, 303);
        due("ran(2)", x.ran(2), 100);
        due("out(0)", x.out(0), 5);
        due("out(99)", x.out(99), 104);
        due("out(100)", x.out(100), 0);
        due("word(0)", x.word(0), 100);
        // Behind its EXPR: an index in it comes first; and a step comes before both.
        ends("pub a;pub r[2];while(1){out r#[a/100*2];a=a+1;}", 2000, 1, 303);
        ends("pub a;pub r[2];while(1){#out r[a/100*2];a=a+1;}", 302, 2, 302);
        x = ends("out 1;".repeat(100) + "#out 2;", 2000, 3, 101);
        due("out(99)", x.out(99), 1);
        ends("out 1;".repeat(100) + "#out 2;", 100, 2, 100);
        ends("out 1;".repeat(100), 100, 0, 100);
        due("a run after that tells anew", x.run(5), 2);
        due("ran(2)", x.ran(2), 5);
    }

    // INPUTS and promise 6

    /** "the words of all declarations with in, numbered from 0 by their order" */
    private static void inputsByTheirOrder() {
        QuietDesk x = Bench.loaded("pub a;sec in b;pub c[3];pub in d[2];sec in e[1];pub f;pub in g;");
        int[] words = {1, 5, 6, 7, 9};
        for (int k = 0; k < 5; k++) {
            due("input(" + k + ")", x.input(k, 100 + k), true);
        }
        due("run(0)", x.run(0), 0);
        for (int k = 0; k < 5; k++) {
            due("word(" + words[k] + ")", x.word(words[k]), 100 + k);
        }
        for (int k : new int[] {0, 2, 3, 4, 8}) {
            due("word(" + k + ") is no input", x.word(k), 0);
        }
    }

    /** "they keep what was put in from run to run": though a run puts something else into their words. */
    private static void inputsAreKept() {
        QuietDesk x = Bench.loaded("pub in a;sec in r[2];a=a*2;r[1]=r[1]-1;");
        x.input(0, 21);
        x.input(2, LEAST);
        for (int i = 0; i < 3; i++) {
            due("run(9)", x.run(9), 0);
            due("word(0)", x.word(0), 42);
            due("word(2)", x.word(2), GREATEST);
        }
        due("run(1)", x.run(1), 2);
        due("word(2)", x.word(2), LEAST);
        due("run(2001)", x.run(2001), NONE);
        due("run(9)", x.run(9), 0);
        due("word(0) after a refused run", x.word(0), 42);
    }

    /** "False when there is no program" */
    private static void inputWithoutAProgram() {
        QuietDesk x = new QuietDesk();
        due("input(0, 1)", x.input(0, 1), false);
        Bench.load(x, "pub in a;out");
        due("input(0, 1) after a fault", x.input(0, 1), false);
        Bench.load(x, "pub in a;out b;");
        due("input(0, 1) after something wrong", x.input(0, 1), false);
        Bench.load(x, "pub in a;out a;");
        x.run(9);
        due("none of them was taken", x.out(0), 0);
    }

    /** "False when .. no such input": too small, too large, or there is none at all. */
    private static void inputThatIsNone() {
        QuietDesk x = Bench.loaded("pub a;sec in k[2];pub b;pub in c;pub d;");
        for (int k : new int[] {-1, 3, 4, 6, 200, LEAST, GREATEST, LEAST + 1, 0x40000000, -3}) {
            due("input(" + k + ")", x.input(k, 77), false);
        }
        x.run(9);
        for (int k = 0; k < 6; k++) {
            due("word(" + k + ") after refused inputs", x.word(k), 0);
        }
        for (int k = 0; k < 3; k++) {
            due("input(" + k + ")", x.input(k, 7), true);
        }
        x = Bench.loaded("pub a;sec k;");
        due("input(0) of a program without", x.input(0, 1), false);
        x = Bench.loaded("pub in a[64];pub in b[64];pub in c[64];pub in d[8];");
        due("input(199)", x.input(199, 1), true);
        due("input(200)", x.input(200, 1), false);
        x = Bench.loaded("");
        due("input(0) of the empty program", x.input(0, 1), false);
        // A program with more inputs was there before.
        x = Bench.loaded("pub in a[9];");
        Bench.load(x, "pub in a;");
        due("input(1) of a program with one", x.input(1, 1), false);
    }

    /** "Input k becomes v.": any v, the latest one, and not before the next run. */
    private static void inputBecomesAnything() {
        QuietDesk x = Bench.loaded("pub in a;sec in b;");
        for (int v : NUMBERS) {
            x.input(0, ~v);
            due("input(0, " + v + ")", x.input(0, v), true);
            due("input(1, " + v + ")", x.input(1, v ^ 1), true);
            due("run(0)", x.run(0), 0);
            due("word(0)", x.word(0), v);
            due("word(1)", x.word(1), v ^ 1);
            x.input(0, 12345);
            due("word(0) is as the run left it", x.word(0), v);
        }
    }

    // Promise 7

    /** "NONE when there is none" */
    private static void runWithoutAProgram() {
        QuietDesk x = new QuietDesk();
        due("run(0)", x.run(0), NONE);
        due("run(2000)", x.run(2000), NONE);
        due("ran(1)", x.ran(1), NONE);
        Bench.load(x, "@");
        due("run(1) after a fault", x.run(1), NONE);
        Bench.load(x, "a=1;");
        due("run(1) after something wrong", x.run(1), NONE);
        due("ran(1)", x.ran(1), NONE);
        x.load(0);
        due("run(0) of the empty program", x.run(0), 0);
    }

    /** "NONE when .. steps is not 0 .. 2000" */
    private static void runOfTooFewOrTooManySteps() {
        QuietDesk x = Bench.loaded("pub a;while(1){a=a+1;}");
        for (int steps : new int[] {-1, -2, 2001, 2002, 4000, LEAST, GREATEST}) {
            due("run(" + steps + ")", x.run(steps), NONE);
            due("ran(1) after run(" + steps + ")", x.ran(1), NONE);
        }
        due("run(0)", x.run(0), 2);
        due("ran(1)", x.ran(1), 0);
        due("run(2000)", x.run(2000), 2);
        due("ran(1)", x.ran(1), 2000);
    }

    /** A refused run is none: what the latest run left is still there. */
    private static void refusedRunChangesNothing() {
        QuietDesk x = Bench.loaded("pub in a;a=a+1;out a;a=a+1;out a;");
        x.input(0, 5);
        x.run(3);
        for (int steps : new int[] {-1, 2001}) {
            due("run(" + steps + ")", x.run(steps), NONE);
            due("ran(0)", x.ran(0), 27);
            due("ran(1)", x.ran(1), 3);
            due("ran(2)", x.ran(2), 1);
            due("out(0)", x.out(0), 6);
            due("word(0)", x.word(0), 7);
            due("quiet()", x.quiet(), true);
        }
    }

    /** "An object is used for at most 512 calls": with the longest tape and the most steps, to the last of them. */
    private static void runsUpToThe512thCall() {
        QuietDesk x = new QuietDesk();
        String text = "pub in a;sec in k;pub b;sec c;while(b<a){b=b+1;if(k){c=c+2;}}";
        due("load", Bench.load(x, text + " ".repeat(3000 - text.length())), 0);
        int calls = 151;
        for (int i = 0; calls + 7 <= 512; i++) {
            int a = 640 + i;
            int steps = 1 + 1 + 3 * a;
            due("input(0)", x.input(0, a), true);
            due("input(1)", x.input(1, i % 3), true);
            due("run(2000)", x.run(2000), steps <= 2000 ? 0 : 2);
            due("ran(1)", x.ran(1), Math.min(2000, steps));
            due("word(2)", x.word(2), Math.min(a, 666));
            due("word(3)", x.word(3), i % 3 == 0 ? 0 : 2 * Math.min(a, 666));
            due("quiet()", x.quiet(), true);
            calls += 7;
        }
    }

    // Promise 8

    /** "NONE when there was none": before the first run, after a load of any kind. */
    private static void ranWithoutARun() {
        QuietDesk x = new QuietDesk();
        due("ran(1) of a new object", x.ran(1), NONE);
        for (String text : new String[] {"out 1;", "@", "out b;", "out 2;", ""}) {
            int answer = Bench.load(x, text);
            for (int what = 0; what < 3; what++) {
                due("ran(" + what + ") after load of " + text, x.ran(what), NONE);
            }
            int end = x.run(5);
            due("run(5) of " + text, end, answer == 0 ? 0 : NONE);
            due("ran(1) of " + text, x.ran(1), answer == 0 ? text.isEmpty() ? 0 : 1 : NONE);
        }
    }

    /** "or for others" */
    private static void ranOfOthers() {
        QuietDesk x = bench.ran("out 1;out 2;", 1, 2);
        due("ran(0)", x.ran(0), 6);
        for (int what : new int[] {-1, 3, 4, 256, LEAST, GREATEST}) {
            due("ran(" + what + ")", x.ran(what), NONE);
        }
    }

    /** "its steps": none, some, and the most. */
    private static void ranSteps() {
        QuietDesk x = Bench.loaded("pub a;while(a<999){a=a+1;}");
        for (int steps : new int[] {0, 1, 2, 1000, 1999, 2000}) {
            due("run(" + steps + ")", x.run(steps), steps == 2000 ? 0 : 2);
            due("ran(1)", x.ran(1), steps);
        }
        x = Bench.loaded("pub a;while(a<998){a=a+1;}");
        due("run(2000)", x.run(2000), 0);
        due("ran(1), not what it was given", x.ran(1), 1 + 999 + 998);
    }

    // Promise 9

    /** "0 when there is none": before the first, behind the last, and far from both. */
    private static void outThatIsNone() {
        QuietDesk x = bench.ran("out 11;out 12;out 13;", 9, 0);
        due("out(0)", x.out(0), 11);
        due("out(2)", x.out(2), 13);
        for (int i : new int[] {-1, 3, 4, 99, 100, 101, LEAST, GREATEST, 0x40000000, 0x40000001, LEAST + 1}) {
            due("out(" + i + ")", x.out(i), 0);
        }
        x = bench.ran("out 5;".repeat(100), 200, 0);
        due("out(99)", x.out(99), 5);
        due("out(100)", x.out(100), 0);
        due("out(-1)", x.out(-1), 0);
        x = bench.ran("", 0, 0);
        due("out(0) of a run that told nothing", x.out(0), 0);
        // With all words and both ends full, nothing else is taken for something told.
        x = bench.ran("sec in k;pub a[64];pub b[64];pub c[64];pub d[6];pub i;while(i<64){a[i]=1;b[i]=2;c[i]=3;i=i+1;}"
            + "d[5]=9;d[4]=d[5]+d[d[0]];i=0;while(i<100){out i+1;i=i+1;}d[d[0]+1]=d[5]*d[d[1]];if(k){}else{k=5;if(k){k=6;}}",
            2000, 0);
        due("out(-1)", x.out(-1), 0);
        due("out(-2)", x.out(-2), 0);
        due("out(0)", x.out(0), 1);
        due("out(99)", x.out(99), 100);
        for (int i = 100; i < 130; i++) {
            due("out(" + i + ")", x.out(i), 0);
        }
    }

    /** "that the latest run .. told": what an earlier one told behind its last is gone. */
    private static void outOfTheLatestRun() {
        QuietDesk x = bench.ran("out 11;out 12;out 13;", 9, 0);
        for (int steps = 2; steps >= 0; steps--) {
            due("run(" + steps + ")", x.run(steps), 2);
            due("ran(2)", x.ran(2), steps);
            for (int i = 0; i < 3; i++) {
                due("out(" + i + ") of " + steps, x.out(i), i < steps ? 11 + i : 0);
            }
        }
    }

    /** "or no run since load()" */
    private static void outWithoutARun() {
        QuietDesk x = bench.ran("out 11;", 9, 0);
        Bench.load(x, "out 12;");
        due("out(0) after load", x.out(0), 0);
        x.run(9);
        due("out(0)", x.out(0), 12);
        Bench.load(x, "@");
        due("out(0) after a fault", x.out(0), 0);
        Bench.load(x, "out 12;");
        x.run(9);
        Bench.load(x, "out b;");
        due("out(0) after something wrong", x.out(0), 0);
    }

    // Promise 10

    /** "0 when there is none": before the first, behind the last, and far from both. */
    private static void wordThatIsNone() {
        QuietDesk x = bench.ran("pub a;sec r[2];pub in b;a=1;r[0]=2;r[1]=3;b=4;out 5;out 6;", 9, 0);
        for (int k = 0; k < 4; k++) {
            due("word(" + k + ")", x.word(k), k + 1);
        }
        for (int k = 4; k < 400; k++) {
            due("word(" + k + ")", x.word(k), 0);
        }
        for (int k : new int[] {-1, -2, -200, LEAST, GREATEST, 0x40000000, LEAST + 1, 16384}) {
            due("word(" + k + ")", x.word(k), 0);
        }
        x = bench.ran("pub a[64];pub b[64];pub c[64];pub d[8];d[7]=9;out 8;", 9, 0);
        due("word(199)", x.word(199), 9);
        due("word(200)", x.word(200), 0);
        x = bench.ran("out 8;", 9, 0);
        due("word(0) of a program without", x.word(0), 0);
    }

    /** "as the latest run .. left it": however it ended. */
    private static void wordAsARunLeftIt() {
        QuietDesk x = Bench.loaded("pub in i;pub a;pub r[2];a=1;r[i]=2;a=3;out 1;a=4;");
        int[] left = {0, 1, 1, 3, 3, 4};
        for (int steps = 5; steps >= 0; steps--) {
            due("run(" + steps + ")", x.run(steps), steps == 5 ? 0 : 2);
            due("word(1) of " + steps, x.word(1), left[steps]);
            due("word(2) of " + steps, x.word(2), steps < 2 ? 0 : 2);
        }
        x.input(0, 2);
        due("run(5)", x.run(5), 1);
        due("word(1) of an end by 1", x.word(1), 1);
        due("word(0) of an end by 1", x.word(0), 2);
        due("word(2) of an end by 1", x.word(2), 0);
    }

    /** "or no run since load()" */
    private static void wordWithoutARun() {
        QuietDesk x = Bench.loaded("pub in a;");
        x.input(0, 9);
        due("word(0) of an input, without a run", x.word(0), 0);
        x.run(0);
        due("word(0)", x.word(0), 9);
        for (String text : new String[] {"pub in a;", "pub a;@", "pub a;b=1;"}) {
            Bench.load(x, text);
            due("word(0) after load of " + text, x.word(0), 0);
        }
    }

    // Promise 11

    /** "if there were two": none, one, and after a load. */
    private static void quietOfFewerThanTwoRuns() {
        QuietDesk x = new QuietDesk();
        due("quiet() of a new object", x.quiet(), true);
        Bench.load(x, "pub in a;while(a){a=a-1;}");
        due("quiet() without a run", x.quiet(), true);
        x.run(0);
        due("quiet() after one run", x.quiet(), true);
        Bench.load(x, "pub in a;while(a){a=a-1;}");
        x.run(0);
        due("quiet() after one run of this program", x.quiet(), true);
        Bench.load(x, "@");
        due("quiet() without a program", x.quiet(), true);
        // Runs of other programs are none of this one, though they had the same to do.
        String[] texts = {"", "out 1;", "out 1;out 2;", "pub a;while(a<9){a=a+1;}", "sec in k;if(k){k=2;}"};
        for (String text : texts) {
            for (int steps : new int[] {0, 100}) {
                x = new QuietDesk();
                Bench.load(x, text);
                x.run(steps);
                due("quiet() after the first run of " + text, x.quiet(), true);
                for (String other : texts) {
                    Bench.load(x, other);
                    x.run(steps);
                    due("quiet() after one run of " + other + " behind one of " + text, x.quiet(), true);
                }
            }
        }
    }

    /** "and they had the same steps to do and the same public inputs ..; true otherwise" */
    private static void quietOfRunsThatDiffer() {
        QuietDesk x = Bench.loaded("pub in a;sec in k;pub in b[2];while(a){a=a-1;k=k*b[1];}");
        x.input(0, 3);
        x.run(100);
        x.run(2);
        due("quiet() after other steps", x.quiet(), true);
        x.input(0, 4);
        x.run(2);
        due("quiet() after another public input", x.quiet(), true);
        x.run(100);
        x.input(0, 0);
        x.run(100);
        due("quiet() after a run with another trail", x.quiet(), true);
        x.input(3, 1);
        x.run(100);
        due("quiet() after another last input", x.quiet(), true);
    }

    /** "left the same trail in as many cycles": with secrets at their edges, through everything that may be done. */
    private static void quietWithAnySecrets() {
        String text = "sec in k;sec in s[3];pub in n;pub i;sec x;sec y;pub r[4];while(i<n){if(k<s[i]){x=x*k+3;if(x){y=x;}"
            + "else{y=-1;}}else{if(n){y=y+1;}x=k<<i>>y;}s[i]=x;i=i+1;r[i]=i/n;}if(s[0]==k){}else{k=!k;}out i/n;";
        QuietDesk x = Bench.loaded(text);
        due("load", x.told(0), NONE);
        for (int n = 0; n < 5; n++) {
            x.input(4, n);
            for (int a : new int[] {0, 1, -1, LEAST, GREATEST}) {
                x.input(0, a);
                for (int b : new int[] {0, -1, LEAST, GREATEST}) {
                    x.input(1, b);
                    x.input(2, a ^ b);
                    due("run", x.run(60), n < 4 ? 0 : 1);
                    due("quiet() with " + a + " and " + b, x.quiet(), true);
                }
            }
        }
    }

    /** Runs that end by 1, 2 or 3 are compared too. */
    private static void quietOfRunsThatEnd() {
        QuietDesk x = Bench.loaded("sec in k;pub in i;pub r[2];while(1){k=k*k;if(k){k=k+1;}else{k=2;}out r[i];}");
        for (int steps : new int[] {0, 1, 5, 17, 2000}) {
            for (int i : new int[] {1, 2}) {
                x.input(1, i);
                for (int k : new int[] {0, 1, LEAST}) {
                    x.input(0, k);
                    x.run(steps);
                    due("quiet() with " + steps + " steps", x.quiet(), true);
                }
            }
        }
        due("run(2000)", x.run(2000), 1);
        x.input(1, 0);
        due("run(2000)", x.run(2000), 3);
    }
}
