/** Each promise of the document by itself: ordinary inputs, the edges that it names, and wrong inputs. */
public final class PromisesTest {
    private static final int NONE = QuietDesk.NONE;
    private static final int LEAST = Integer.MIN_VALUE;
    private static final int GREATEST = Integer.MAX_VALUE;
    private static final long FACTOR = 6364136223846793005L;
    private static final Bench bench = new Bench();

    public static void main(String[] args) {
        newObject();
        feed();
        load();
        tokens();
        faults();
        depths();
        wrongNames();
        wrongSecrets();
        wrongWithin();
        orderOfWrongs();
        told();
        count();
        input();
        run();
        steps();
        meaning();
        ran();
        out();
        word();
        quiet();
        poke();
        peek();
        set();
        get();
        start();
        go();
        stops();
        cacheAndCycles();
        state();
        trail();
        bench.end("PromisesTest");
    }

    private static void due(String call, long got, long want) {
        bench.due(call, got, want);
    }

    private static void due(String call, boolean got, boolean want) {
        bench.due(call, got, want);
    }

    private static void right(String text) {
        bench.right(text);
    }

    private static void fault(String text, int place) {
        bench.fault(text, place);
    }

    private static void wrong(int number, String text) {
        bench.wrong(number, text);
    }

    /** Runs a text once with enough steps. */
    private static QuietDesk done(String text) {
        QuietDesk x = Bench.loaded(text);
        due("told(0) of " + text, x.told(0), NONE);
        due("run of " + text, x.run(2000), 0);
        return x;
    }

    private static void value(String expr, int want) {
        due(expr, done("pub in a;pub in b;pub c;c=" + expr + ";").word(2), want);
    }

    // 1
    private static void newObject() {
        QuietDesk x = new QuietDesk();
        due("load(1) of nothing", x.load(1), NONE);
        due("told(0)", x.told(0), NONE);
        due("told(1)", x.told(1), NONE);
        due("count(0)", x.count(0), NONE);
        due("input(0, 0)", x.input(0, 0), false);
        due("run(0)", x.run(0), NONE);
        due("ran(1)", x.ran(1), NONE);
        due("out(0)", x.out(0), 0);
        due("word(0)", x.word(0), 0);
        due("quiet()", x.quiet(), true);
        for (int place = 0; place < 16384; place += 64) {
            due("peek of a new object", x.peek(place), 0);
        }
        for (int r = 0; r < 32; r++) {
            due("get of a new object", x.get(r), 0);
        }
        for (int what = 0; what < 4; what++) {
            due("state of a new object", x.state(what), 0);
        }
        due("trail()", x.trail(), 0);
        due("feed", x.feed(0, 0, 0, 0, 0), 20);
    }

    // 2
    private static void feed() {
        QuietDesk x = new QuietDesk();
        for (int i = 1; i <= 150; i++) {
            due("feed " + i, x.feed(0x70756220, 0x613B2020, 0x20202020, 0x20202020, 0x20202020), 20 * i);
        }
        due("feed beyond 3000", x.feed(0, 0, 0, 0, 0), NONE);
        due("feed beyond 3000 again", x.feed(0, 0, 0, 0, 0), NONE);
        due("load(3000)", x.load(3000), -3);
        due("the second a is the wrong one", x.told(0), 24);
        due("feed from the empty tape on", x.feed(-1, LEAST, 1, 2, 3), 20);
        due("the highest byte comes first", Bench.load(new QuietDesk(), "pub a;"), 0);
    }

    // 3
    private static void load() {
        QuietDesk x = new QuietDesk();
        Bench.feed(x, "pub in a; out a;");
        due("load(-1)", x.load(-1), NONE);
        due("load(21)", x.load(21), NONE);
        due("load(LEAST)", x.load(LEAST), NONE);
        due("load(GREATEST)", x.load(GREATEST), NONE);
        due("load(16)", x.load(16), 0);
        due("input(0, 9)", x.input(0, 9), true);
        due("run(9)", x.run(9), 0);
        due("a load of too much changes nothing", x.load(1), NONE);
        due("count(1)", x.count(1), 1);
        due("out(0)", x.out(0), 9);
        Bench.feed(x, "pub in a; out a;");
        due("load(16) again", x.load(16), 0);
        due("no run of this program yet", x.ran(0), NONE);
        due("out(0) without a run", x.out(0), 0);
        due("word(0) without a run", x.word(0), 0);
        due("run(9)", x.run(9), 0);
        due("inputs are 0", x.out(0), 0);
        Bench.feed(x, "pub in a; out a;");
        due("load(9), the first bytes alone", x.load(9), 0);
        due("run(0) of declarations alone", x.run(0), 0);
        due("the tape is empty", x.load(1), NONE);
        due("load(0)", x.load(0), 0);
        due("count(0) of the empty program", x.count(0), 0);
        due("a fault", Bench.load(x, "pub"), -2);
        due("no program after a fault", x.run(1), NONE);
        due("load(0)", x.load(0), 0);
        due("something wrong", Bench.load(x, "a=1;"), -3);
        due("no program after that", x.run(1), NONE);
        due("no count after that", x.count(0), NONE);
        due("no input after that", x.input(0, 1), false);
    }

    private static void tokens() {
        right("");
        right(" \t\r\n ");
        right("pub abcdefghij;abcdefghij=1;");
        fault("pub abcdefghijk;", 4);
        right("pub pub1;pub inn;pub OUT;pub If;pub a1b2;");
        right("pub in in1;");
        fault("pub in;", 6);
        fault("pub in in;", 7);
        fault("pub while;", 4);
        fault("pub 1a;", 4);
        fault("pub _a;", 4);
        fault("pub a_b;", 5);
        fault("pub \u00e4;", 4);
        fault("pub a\0;", 5);
        fault("pub a\f;", 5);
        right("pub\ta\n;\ra\t=\n2147483647\r;");
        fault("pub a;a=2147483648;", 8);
        fault("pub a;a=99999999999999999999999999999;", 8);
        fault("pub a;a=00;", 8);
        fault("pub a;a=01;", 8);
        right("pub a;a=0;");
        fault("pub a;a=5x;", 8);
        fault("pub a;a=5in;", 8);
        right("pub a;a=5<<1<=2==!3;");
        fault("pub a;a=1>2;", 9);
        right("pub a;a=1>>2;");
        fault("pub a;a=1>>>2;", 11);
        fault("pub a;a=1>=2;", 9);
        fault("pub a;a=1!=2;", 9);
        fault("pub a;a=1<<=2;", 11);
        fault("pub a;a=1<==2;", 11);
        fault("pub a;a===2;", 7);
        fault("pub a;a= =2;", 9);
        right("pub a;a=!!1;");
        right("pub a;a=1- -1--1;");
        right("pub p[ 3 ];p [1]=p[p[0]];");
        fault("puba;", 4);
        fault("pub a;ifa(1){}", 9);
        fault("pub a;@", 6);
        fault("@", 0);
    }

    private static void faults() {
        fault("pub", 3);
        fault("pub  ", 5);
        fault("pub a", 5);
        fault("pub a[", 6);
        fault("pub a[a];", 6);
        fault("pub a[1;", 7);
        fault("pub a[1]", 8);
        fault("pub a[-1];", 6);
        fault("pub sec a;", 4);
        fault("pub in pub;", 7);
        fault("in a;", 0);
        fault(";", 0);
        fault("}", 0);
        fault("{}", 0);
        fault("else", 0);
        fault("1", 0);
        fault("a", 1);
        fault("a;", 1);
        fault("a[", 2);
        fault("a[]", 2);
        fault("a[1]", 4);
        fault("a[1];", 4);
        fault("a[1]=", 5);
        fault("a=;", 2);
        fault("a=1", 3);
        fault("a=1}", 3);
        fault("a=1 2;", 4);
        fault("a=b c;", 4);
        fault("a=b(1);", 3);
        fault("a=(1;", 4);
        fault("a=1);", 3);
        fault("a=();", 3);
        fault("a=b[1;", 5);
        fault("a=1];", 3);
        fault("a=1+;", 4);
        fault("a=*1;", 2);
        fault("a=1 in;", 4);
        fault("a=if;", 2);
        fault("if a", 3);
        fault("if()", 3);
        fault("if(1)", 5);
        fault("if(1)a=1;", 5);
        fault("if(1){", 6);
        fault("if(1){a", 7);
        fault("if(1){}else", 11);
        fault("if(1){}else a=1;", 12);
        fault("if(1){}else if(1){}", 12);
        fault("if(1){}else{}else{}", 13);
        fault("if(1){pub a;}", 6);
        fault("if(1){}}", 7);
        fault("while 1", 6);
        fault("while(1);", 8);
        fault("while(1){}else{}", 10);
        fault("out;", 3);
        fault("out 1", 5);
        fault("a=1;pub b;", 4);
        fault("q=1;b=2;@", 8);
        right("pub a;if(1){}else{}while(0){}out 1;a=1;");
    }

    private static String nest(String open, int count, String inner, String close) {
        return open.repeat(count) + inner + close.repeat(count);
    }

    private static void depths() {
        String head = "pub a;pub r[9];a=";
        int from = head.length();
        right(head + nest("(", 14, "1", ")") + ";");
        fault(head + nest("(", 15, "1", ")") + ";", from + 15);
        fault(head + nest("(", 16, "1", ")") + ";", from + 15);
        fault(head + nest("(", 15, "*", ")") + ";", from + 15);
        fault(head + nest("(", 15, "@", ")") + ";", from + 15);
        right(head + nest("-", 29, "1", "") + ";");
        fault(head + nest("-", 30, "1", "") + ";", from + 30);
        fault(head + nest("~", 31, "1", "") + ";", from + 30);
        right(head + nest("r[", 14, "1", "]") + ";");
        fault(head + nest("r[", 15, "1", "]") + ";", from + 30);
        right(head + nest("(", 14, "1+2*3-4", ")") + ";");
        right(head + nest("-(", 9, "-!1", ")") + ";");
        fault(head + nest("-(", 9, "-!~1", ")") + ";", from + 21);
        right("pub a;" + nest("if(1){", 29, "a=1;", "}"));
        right("pub a;" + nest("if(1){", 30, "", "}"));
        fault("pub a;" + nest("if(1){", 30, "a=1;", "}"), 6 + 180 + 2);
        fault("pub a;" + nest("if(1){", 31, "", "}"), 6 + 180 + 3);
        fault("pub a;" + nest("while(0){", 30, "out 1;", "}"), 6 + 270 + 4);
        right("pub r[2];" + nest("if(0){}else{", 29, "r[0]=1;", "}"));
        fault("pub r[2];" + nest("if(0){}else{", 30, "r[0]=1;", "}"), 9 + 360 + 2);
        right("pub a;" + nest("if(1){", 15, "a=" + nest("(", 7, "1", ")") + ";", "}"));
        fault("pub a;" + nest("if(1){", 15, "a=" + nest("(", 8, "1", ")") + ";", "}"), 6 + 90 + 2 + 8);
    }

    private static void wrongNames() {
        wrong(1, "#a=1;");
        wrong(1, "pub a;sec #a;");
        wrong(1, "pub a;pub in #a[3];");
        wrong(1, "pub a;pub #a[0];");
        wrong(1, "pub a;a=1+#b;");
        wrong(1, "pub a;a=#b[a];");
        wrong(1, "pub a;#A=1;");
        wrong(1, "pub a;#aa=1;");
        wrong(1, "pub aa;#a=1;");
        wrong(1, "pub a;if(#b){}");
        wrong(1, "out #b;");
        wrong(1, "while(#b){}");
        wrong(2, "pub a[#0];");
        wrong(2, "pub a[#65];");
        wrong(2, "pub a[#2147483647];");
        right("pub a[1];pub b[64];");
        right("pub a[64];pub b[64];pub c[64];pub d[8];");
        wrong(2, "pub a[64];pub b[64];pub c[64];pub #d[9];");
        wrong(2, "pub a[64];pub b[64];pub c[64];pub d[8];sec in #e;");
        wrong(2, "pub a[64];pub b[64];pub c[64];pub d[#65];");
        wrong(1, "pub a[64];pub b[64];pub c[64];pub d[8];sec in #a;");
        wrong(3, "pub a[3];#a=1;");
        wrong(3, "pub a;#a[0]=1;");
        wrong(3, "pub a;pub b[2];a=#b;");
        wrong(3, "pub a;pub b;a=#b[0];");
    }

    private static void wrongSecrets() {
        String head = "sec k;pub a;pub r[4];sec s[4];";
        wrong(4, head + "r#[k]=1;");
        wrong(4, head + "s#[a+k]=1;");
        wrong(4, head + "k=s#[k];");
        wrong(4, head + "a=r #[ s[1] ];");
        wrong(4, head + "k=r[r#[k]];");
        wrong(5, head + "k=k#/2;");
        wrong(5, head + "k=2#%k;");
        wrong(5, head + "k=1+2*(3+s[0])#/2;");
        wrong(5, head + "k=a/2#/k%2;");
        right(head + "k=a/2%r[1];");
        wrong(6, head + "#while(k){}");
        wrong(6, head + "#while(a<s[0]){a=k;}");
        wrong(7, head + "#a=k;");
        wrong(7, head + "#r[0]=s[0];");
        wrong(7, head + "#out k;");
        wrong(7, head + "#out 0*s[a];");
        wrong(7, head + "#a=k-k;");
        right(head + "k=a;s[a]=r[1];k=k;s[r[1]]=s[a]*k;");
    }

    private static void wrongWithin() {
        String head = "sec k;pub a;pub r[4];sec s[4];";
        wrong(8, head + "if(k){#while(a){}}");
        wrong(8, head + "if(k){#out 1;}");
        wrong(8, head + "if(k){}else{#out 1;}");
        wrong(8, head + "if(k){#a=1;}");
        wrong(8, head + "if(k){#r[0]=1;}");
        wrong(8, head + "if(k){#s[0]=1;}");
        wrong(8, head + "if(k){#s=1;}");
        wrong(8, head + "if(k){k=s#[0];}");
        wrong(8, head + "if(k){k=r #[0];}");
        wrong(8, head + "if(k){k=a#/2;}");
        wrong(8, head + "if(k){k=1#%2;}");
        wrong(8, head + "if(k){if(a){#a=1;}}");
        wrong(8, head + "if(k){if(a){}else{if(k){}#out 1;}}");
        wrong(8, head + "if(k){if(r#[0]){}}");
        wrong(8, head + "if(s[0]){if(a#/2){}}");
        wrong(8, head + "if(a){if(k){#a=1;}}");
        right(head + "if(k){}a=1;out 1;while(a<1){}k=s[0];");
        right(head + "if(k){k=1;}else{if(a){k=a*2;}else{if(k==3){k=-k;}}}r[0]=a/2;");
        right(head + "if(s[a/2]){k=1;}");
        right(head + "if(a){out 1;a=2;s[0]=k;if(k){k=2;}while(a<0){}}");
    }

    private static void orderOfWrongs() {
        String head = "sec k;pub a;pub r[4];sec s[4];";
        wrong(1, head + "if(k){#q=1/0;}");
        wrong(8, head + "if(k){#r=q;}");
        wrong(8, head + "if(k){#a[q]=q;}");
        wrong(3, head + "if(k){#k[0]=q;}");
        wrong(3, head + "#a[q]=q;");
        wrong(1, head + "r[#q]=k;");
        wrong(4, head + "r#[k]=q;");
        wrong(1, head + "r[0]=k+#q;");
        wrong(8, head + "if(k){#out q;}");
        wrong(8, head + "if(k){#while(q){}}");
        wrong(1, head + "out k+#q;");
        wrong(6, head + "#while(k){q=1;}");
        wrong(7, head + "#out k;q=1;");
        wrong(1, head + "if(#q){q=1;}");
        wrong(8, head + "if(k){k=k#[q];}");
        wrong(1, head + "if(k){k=#q[q];}");
        wrong(3, head + "k=#k[q];");
        wrong(1, head + "k=s[k+#q];");
        wrong(5, head + "k=k#/2+q;");
        wrong(1, head + "k=k/#q;");
        wrong(1, head + "if(k){k=1/#q;}");
        wrong(8, head + "if(k){k=1#/k;}");
        wrong(5, head + "a=k#%2;");
        wrong(4, head + "a=s#[k];");
        wrong(1, "pub b;pub #b[99];pub c;");
        wrong(2, "pub b[#99];q=1;");
        wrong(2, "pub b[64];pub c[64];pub d[64];pub e[#65];");
    }

    // 4
    private static void told() {
        QuietDesk x = new QuietDesk();
        due("told(0) before", x.told(0), NONE);
        Bench.load(x, "pub a;  b=1;");
        due("told(0)", x.told(0), 8);
        due("told(1)", x.told(1), 1);
        due("told(2)", x.told(2), NONE);
        due("told(-1)", x.told(-1), NONE);
        due("told(LEAST)", x.told(LEAST), NONE);
        due("load(1)", x.load(1), NONE);
        due("told(0) after a load of too much", x.told(0), 8);
        Bench.load(x, "pub a");
        due("told(0) of a fault", x.told(0), 5);
        due("told(1) of a fault", x.told(1), 0);
        Bench.load(x, "pub a;");
        due("told(0) of a right one", x.told(0), NONE);
        due("told(1) of a right one", x.told(1), NONE);
        Bench.load(x, "a=1;");
        due("told(0) at the first byte", x.told(0), 0);
    }

    // 5
    private static void count() {
        QuietDesk x = Bench.loaded("pub a;sec in k[5];pub in b;pub in c[3];sec d[7];sec in e;");
        due("count(0)", x.count(0), 18);
        due("count(1)", x.count(1), 10);
        due("count(2)", x.count(2), 4);
        due("count(3)", x.count(3), NONE);
        due("count(-1)", x.count(-1), NONE);
        Bench.load(x, "sec a[64];pub in b[64];sec in c[64];pub in d[8];");
        due("count(0)", x.count(0), 200);
        due("count(1)", x.count(1), 136);
        due("count(2)", x.count(2), 72);
        Bench.load(x, "@");
        due("count(0) without a program", x.count(0), NONE);
        due("count(1) without a program", x.count(1), NONE);
    }

    // 6
    private static void input() {
        QuietDesk x = Bench.loaded("pub a;sec in k[2];pub b;pub in c;a=7;b=c;c=c+1;k[1]=k[1]+1;");
        due("input(-1)", x.input(-1, 1), false);
        due("input(3)", x.input(3, 1), false);
        due("input(LEAST)", x.input(LEAST, 1), false);
        due("input(0)", x.input(0, LEAST), true);
        due("input(1)", x.input(1, 5), true);
        due("input(2)", x.input(2, GREATEST), true);
        for (int i = 0; i < 3; i++) {
            due("run", x.run(9), 0);
            due("word(0)", x.word(0), 7);
            due("word(1)", x.word(1), LEAST);
            due("word(2) from the same input each time", x.word(2), 6);
            due("word(3)", x.word(3), GREATEST);
            due("word(4) runs over", x.word(4), LEAST);
        }
        due("input(1) anew", x.input(1, -1), true);
        due("word(2) is as the run left it", x.word(2), 6);
        x.run(9);
        due("word(2)", x.word(2), 0);
        due("word(1) kept", x.word(1), LEAST);
    }

    // 7
    private static void run() {
        QuietDesk x = Bench.loaded("pub a;pub r[3];pub in i;a=1;r[i]=5;out r[2-i]/0;");
        due("run(-1)", x.run(-1), NONE);
        due("run(2001)", x.run(2001), NONE);
        due("run(LEAST)", x.run(LEAST), NONE);
        due("ran(0) after none", x.ran(0), NONE);
        due("run(2000)", x.run(2000), 0);
        due("out(0)", x.out(0), -1);
        due("run(2)", x.run(2), 2);
        due("ran(0)", x.ran(0), 35);
        due("run(3)", x.run(3), 0);
        x.input(0, 3);
        due("an index too great", x.run(9), 1);
        due("ran(0)", x.ran(0), 29);
        due("ran(1)", x.ran(1), 2);
        x.input(0, -1);
        due("an index too small", x.run(9), 1);
        x.input(0, LEAST);
        due("the least index", x.run(9), 1);
        due("no step before the index", x.run(1), 2);
        x.input(0, 2);
        due("run(9)", x.run(9), 0);
        due("word(3)", x.word(3), 5);
        x = Bench.loaded("pub a;pub r[3];pub s[3];a=r[5]+s[6];");
        due("the left index first", x.run(9), 1);
        due("ran(0)", x.ran(0), 27);
        x = Bench.loaded("pub a;pub r[3];pub s[3];r[3]=s[6];");
        due("the index of the target first", x.run(9), 1);
        due("ran(0)", x.ran(0), 25);
        x = Bench.loaded("pub a;pub r[3];pub s[3];a=(1+a)*(a-s[r[7]+s[8]]);");
        due("the inner index first", x.run(9), 1);
        due("ran(0)", x.ran(0), "pub a;pub r[3];pub s[3];a=(1+a)*(a-s[r".length());
        x = Bench.loaded("sec k;sec s[2];if(s[2]){k=1;}");
        due("an index of a secret if", x.run(9), 1);
        due("ran(0)", x.ran(0), 19);
        due("ran(1)", x.ran(1), 1);
    }

    private static void steps() {
        QuietDesk x = Bench.loaded("pub a; while(a){}");
        due("run(0)", x.run(0), 2);
        due("ran(0)", x.ran(0), 7);
        due("ran(1)", x.ran(1), 0);
        due("run(1)", x.run(1), 2);
        due("ran(0)", x.ran(0), 7);
        due("ran(1)", x.ran(1), 1);
        due("run(2)", x.run(2), 0);
        due("ran(0)", x.ran(0), NONE);
        due("ran(1)", x.ran(1), 2);
        x = Bench.loaded("pub a;while(1){a=a+1;}");
        due("run(2000)", x.run(2000), 2);
        due("ran(1)", x.ran(1), 2000);
        due("word(0)", x.word(0), 999);
        due("ran(0)", x.ran(0), 15);
        due("run(1999)", x.run(1999), 2);
        due("ran(0)", x.ran(0), 6);
        x = Bench.loaded("sec k;pub a;if(k){k=1;k=2;if(a){k=3;}if(k){}}else{k=4;k=5;}if(a){a=1;}else{a=2;a=3;}");
        due("run(9)", x.run(9), 0);
        due("ran(1): a secret if is one, the other one 3", x.ran(1), 4);
        due("word(0)", x.word(0), 5);
        due("word(1)", x.word(1), 3);
        due("run(1)", x.run(1), 2);
        due("word(0)", x.word(0), 5);
        x = Bench.loaded("pub a;while(a<101){out a/0*a;a=a+1;}");
        due("out a 101st time", x.run(2000), 3);
        due("ran(0)", x.ran(0), 19);
        due("ran(1)", x.ran(1), 1 + 3 * 100 + 2);
        due("ran(2)", x.ran(2), 100);
        due("out(99)", x.out(99), -99);
        due("out(100)", x.out(100), 0);
        x = Bench.loaded("pub a;while(a<100){out a;a=a+1;}");
        due("out 100 times", x.run(2000), 0);
        x = Bench.loaded("pub r[9];pub a;while(1){out r[a/100*9];a=a+1;}");
        due("the EXPR of the 101st comes first", x.run(2000), 1);
        due("ran(0)", x.ran(0), "pub r[9];pub a;while(1){out r".length());
    }

    private static void meaning() {
        value("1|6^3&5", 1 | 6 ^ 3 & 5);
        value("1+2*3", 7);
        value("(1+2)*3", 9);
        value("10-3-2", 5);
        value("100/7/2", 7);
        value("100%7*3", 6);
        value("1<<2+1", 8);
        value("1<2<<3", 1);
        value("1<2==1", 1);
        value("3==3<2", 1);
        value("1&3==3", 1);
        value("-2*-3", 6);
        value("!-1+!0", 1);
        value("~0-~5", 5);
        value("2147483647+1", LEAST);
        value("-2147483647-2", GREATEST);
        value("65536*65536+65537*65537", 65537 * 65537);
        value("7/2", 3);
        value("-7/2", -3);
        value("7/-2", -3);
        value("7%-2", 1);
        value("-7%2", -1);
        value("7/0", -1);
        value("-7%0", -7);
        value("0/0", -1);
        value("(1<<31)/-1", LEAST);
        value("(1<<31)%-1", 0);
        value("1<<32", 1);
        value("1<<33", 2);
        value("1<<-1", LEAST);
        value("-8>>1", -4);
        value("-1>>31", -1);
        value("8>>33", 4);
        value("-1<0", 1);
        value("0<-1", 0);
        value("2147483647<(1<<31)", 0);
        value("(1<<31)<2147483647", 1);
        value("5<=5", 1);
        value("6<=5", 0);
        value("-6<=5", 1);
        value("5==5", 1);
        value("5==-5", 0);
        value("!5", 0);
        value("2048", 2048);
        value("-2048", -2048);
        value("2147483647", GREATEST);
        value("2147481600", 2147481600);
        value("2147481599", 2147481599);
        value("4096", 4096);
        QuietDesk x = done("pub a;pub b;if(-1){a=1;}else{a=2;}if(0){b=1;}else{b=2;}if(0){b=9;}");
        due("if of all but 0", x.word(0) * 10 + x.word(1), 12);
        x = done("sec in k;sec a;sec b;if(k){a=1;b=a+1;}else{a=3;b=a+3;}if(k==0){a=a+10;}");
        due("a secret if", x.word(1) * 100 + x.word(2), 1306);
        x.input(0, LEAST);
        x.run(9);
        due("a secret if for the least", x.word(1) * 100 + x.word(2), 102);
        x = done("pub i;pub r[3];r[0]=2;r[r[0]]=i+5;i=r[2];r[i-4]=r[2]*r[0];");
        due("rows", x.word(0) * 1000 + x.word(1) * 100 + x.word(2) * 10 + x.word(3), 5000 + 200 + 100 + 5);
    }

    // 8
    private static void ran() {
        QuietDesk x = Bench.loaded("pub in a;out 1;out 2;if(a){out 3;}");
        for (int what = -1; what < 4; what++) {
            due("ran before", x.ran(what), NONE);
        }
        x.run(2);
        due("ran(0)", x.ran(0), 21);
        due("ran(1)", x.ran(1), 2);
        due("ran(2)", x.ran(2), 2);
        due("ran(3)", x.ran(3), NONE);
        due("ran(-1)", x.ran(-1), NONE);
        due("run(2001)", x.run(2001), NONE);
        due("ran(2) is of the latest run", x.ran(2), 2);
        x.input(0, 1);
        x.run(4);
        due("ran(0)", x.ran(0), NONE);
        due("ran(1)", x.ran(1), 4);
        due("ran(2)", x.ran(2), 3);
        x.load(0);
        due("ran(1) of another program", x.ran(1), NONE);
        Bench.load(x, "@");
        due("ran(1) without a program", x.ran(1), NONE);
    }

    // 9
    private static void out() {
        QuietDesk x = Bench.loaded("pub in a;out a;out a*2;if(a==1){out-1;}");
        due("out(0) before", x.out(0), 0);
        x.input(0, 1);
        x.run(9);
        due("out(0)", x.out(0), 1);
        due("out(1)", x.out(1), 2);
        due("out(2)", x.out(2), -1);
        due("out(3)", x.out(3), 0);
        due("out(-1)", x.out(-1), 0);
        due("out(LEAST)", x.out(LEAST), 0);
        due("out(GREATEST)", x.out(GREATEST), 0);
        due("out(1 << 30)", x.out(1 << 30), 0);
        x.input(0, 8);
        x.run(9);
        due("out(1)", x.out(1), 16);
        due("out(2) of a shorter run", x.out(2), 0);
        Bench.load(x, "out 5;");
        due("out(0) of another program", x.out(0), 0);
    }

    // 10
    private static void word() {
        QuietDesk x = Bench.loaded("pub a;sec r[2];pub b;a=1;r[0]=2;r[1]=3;b=4;");
        due("word(0) before", x.word(0), 0);
        x.run(9);
        for (int k = 0; k < 4; k++) {
            due("word", x.word(k), k + 1);
        }
        due("word(4)", x.word(4), 0);
        due("word(-1)", x.word(-1), 0);
        due("word(LEAST)", x.word(LEAST), 0);
        due("word(1 << 30)", x.word(1 << 30), 0);
        x.run(2);
        due("word(1) of a shorter run", x.word(1), 2);
        due("word(2) of a shorter run", x.word(2), 0);
        Bench.load(x, "pub a;");
        due("word(0) of another program", x.word(0), 0);
    }

    // 11
    private static void quiet() {
        String text = "sec in k;sec in s[3];pub in n;pub i;sec x;sec y;while(i<n){if(k<s[i]){x=x*k+3;if(x){y=x;}"
            + "else{y=-1;}}else{if(n){y=y+1;}x=k<<i;}s[i]=x;i=i+1;}out i/n;";
        QuietDesk x = Bench.loaded(text);
        due("quiet() without a run", x.quiet(), true);
        int[] secrets = {0, 1, -1, 7, LEAST, GREATEST};
        for (int n = 0; n < 5; n++) {
            x = Bench.loaded(text);
            x.input(4, n);
            for (int a : secrets) {
                for (int b : secrets) {
                    x.input(0, a);
                    x.input(1, b);
                    x.input(2, a ^ b);
                    int end = x.run(60);
                    due("how it ends does not hang on secrets", end, n < 4 ? 0 : 1);
                    due("quiet() with the secrets " + a + ", " + b, x.quiet(), true);
                }
            }
        }
        x.run(7);
        due("quiet() after other steps", x.quiet(), true);
        x.load(0);
        due("quiet() of another program", x.quiet(), true);
    }

    // 12
    private static void poke() {
        QuietDesk x = Bench.loaded("pub a;a=5;");
        due("poke(0)", x.poke(0, 1), true);
        due("poke(16380)", x.poke(16380, -2), true);
        due("poke(16384)", x.poke(16384, 1), false);
        due("poke(-4)", x.poke(-4, 1), false);
        due("poke(1)", x.poke(1, 1), false);
        due("poke(2)", x.poke(2, 1), false);
        due("poke(16379)", x.poke(16379, 1), false);
        due("poke(LEAST)", x.poke(LEAST, 1), false);
        due("peek(0)", x.peek(0), 1);
        due("peek(16380)", x.peek(16380), -2);
        for (int place = 0; place < 1600; place += 4) {
            x.poke(place, place);
        }
        due("programs have a machine of their own", x.run(9), 0);
        due("word(0)", x.word(0), 5);
        due("peek(0) after a run", x.peek(0), 0);
        due("peek(2048) after a run", x.peek(2048), 0);
        due("state(1) after a run", x.state(1), 0);
        due("get(6) after a run", x.get(6), 0);
    }

    // 13
    private static void peek() {
        QuietDesk x = new QuietDesk();
        x.poke(8, 0x12345678);
        due("peek(8)", x.peek(8), 0x12345678);
        due("peek(9)", x.peek(9), 0);
        due("peek(10)", x.peek(10), 0);
        due("peek(16384)", x.peek(16384), 0);
        due("peek(-8)", x.peek(-8), 0);
        due("peek(LEAST)", x.peek(LEAST), 0);
        due("peek(GREATEST)", x.peek(GREATEST), 0);
    }

    // 14
    private static void set() {
        QuietDesk x = new QuietDesk();
        due("set(0)", x.set(0, 5), true);
        due("x0 stays 0", x.get(0), 0);
        due("set(31)", x.set(31, LEAST), true);
        due("set(32)", x.set(32, 1), false);
        due("set(-1)", x.set(-1, 1), false);
        due("set(LEAST)", x.set(LEAST, 1), false);
        due("get(31)", x.get(31), LEAST);
    }

    // 15
    private static void get() {
        QuietDesk x = new QuietDesk();
        for (int r = 0; r < 32; r++) {
            x.set(r, r * 3);
        }
        for (int r = 0; r < 32; r++) {
            due("get(" + r + ")", x.get(r), r * 3);
        }
        due("get(32)", x.get(32), 0);
        due("get(-1)", x.get(-1), 0);
        due("get(GREATEST)", x.get(GREATEST), 0);
    }

    // 16
    private static void start() {
        QuietDesk x = Order.machine(0, Order.addi(1, 1, 1), Order.addi(1, 1, 1), 115);
        due("go(9)", x.go(9), 1);
        due("start(-4)", x.start(-4), false);
        due("start(16384)", x.start(16384), false);
        due("start(2)", x.start(2), false);
        due("start(LEAST)", x.start(LEAST), false);
        due("a start that is none changes nothing", x.state(1), 2);
        due("state(0)", x.state(0), 8);
        long trail = x.trail();
        due("start(0)", x.start(0), true);
        for (int what = 0; what < 4; what++) {
            due("state after start", x.state(what), 0);
        }
        due("trail() after start", x.trail(), 0);
        due("registers stay", x.get(1), 2);
        due("memory stays", x.peek(8), 115);
        due("go(9)", x.go(9), 1);
        due("the cache was empty again", x.state(3), 1);
        due("the same trail", x.trail(), trail);
        due("registers went on", x.get(1), 4);
        due("start(16380)", x.start(16380), true);
        due("state(0)", x.state(0), 16380);
    }

    // 17
    private static void go() {
        QuietDesk x = Order.machine(64, Order.addi(1, 0, 7), Order.addi(2, 1, -9), 115);
        due("go(-1)", x.go(-1), NONE);
        due("go(2001)", x.go(2001), NONE);
        due("go(LEAST)", x.go(LEAST), NONE);
        due("go(0)", x.go(0), 0);
        due("state(0)", x.state(0), 64);
        due("go(1)", x.go(1), 0);
        due("get(1)", x.get(1), 7);
        due("go(1)", x.go(1), 0);
        due("go(0) before a stop", x.go(0), 0);
        due("go(1) at ECALL", x.go(1), 1);
        due("go(1) at ECALL again", x.go(1), 1);
        due("get(2)", x.get(2), -2);
        due("state(1)", x.state(1), 2);
        x = Order.machine(0, 0x0000006F);
        due("2000 jumps to itself", x.go(2000), 0);
        due("state(1)", x.state(1), 2000);
        due("state(2)", x.state(2), 4020);
        due("state(3)", x.state(3), 1);
    }

    private static void stopsBy(int order, int why, int register, int v) {
        QuietDesk x = Order.machine(8, order);
        x.set(register, v);
        due("go(1) at " + Integer.toHexString(order), x.go(1), why);
        if (why != 0) {
            due("nothing is done", x.state(1) | x.state(2) | x.state(3) | x.trail(), 0);
            due("the place stays", x.state(0), 8);
        }
    }

    private static void stops() {
        stopsBy(115, 1, 1, 0);
        stopsBy(115 | 1 << 20, 2, 1, 0);
        stopsBy(115 | 1 << 7, 2, 1, 0);
        stopsBy(0, 2, 1, 0);
        stopsBy(-1, 2, 1, 0);
        stopsBy(0x0000000F, 2, 1, 0);
        for (int kind = 0; kind < 8; kind++) {
            stopsBy(kind << 12 | 0x67, kind == 0 ? 0 : 2, 1, 0);
            stopsBy(kind << 12 | 0x63, kind == 2 || kind == 3 ? 2 : 0, 1, 0);
            stopsBy(kind << 12 | 0x03, kind == 2 ? 0 : 2, 1, 0);
            stopsBy(kind << 12 | 0x23, kind == 2 ? 0 : 2, 1, 0);
            for (int upper = 0; upper < 128; upper++) {
                boolean shift = kind == 1 || kind == 5;
                boolean number = !shift || upper == 0 || upper == 32 && kind == 5;
                boolean plain = upper < 2 || upper == 32 && (kind == 0 || kind == 5);
                stopsBy(upper << 25 | kind << 12 | 0x13, number ? 0 : 2, 1, 0);
                stopsBy(upper << 25 | kind << 12 | 0x33, plain ? 0 : 2, 1, 0);
            }
        }
        stopsBy(Order.lw(2, 1, 0), 0, 1, 16380);
        stopsBy(Order.lw(2, 1, 4), 3, 1, 16380);
        stopsBy(Order.lw(2, 1, 1), 3, 1, 16);
        stopsBy(Order.lw(2, 1, 2), 3, 1, 16);
        stopsBy(Order.lw(2, 1, -4), 3, 1, 0);
        stopsBy(Order.lw(2, 1, -4), 0, 1, 4);
        stopsBy(Order.lw(2, 1, 0), 3, 1, LEAST);
        stopsBy(Order.sw(2, 1, 0), 0, 1, 16380);
        stopsBy(Order.sw(2, 1, 4), 3, 1, 16380);
        stopsBy(Order.sw(2, 1, -1), 3, 1, 4);
        stopsBy(Order.sw(2, 1, -2048), 0, 1, 2048);
        stopsBy(Order.sw(2, 1, -2048), 3, 1, 2044);
        QuietDesk x = Order.machine(16380, Order.addi(1, 0, 1));
        due("the last order", x.go(1), 0);
        due("behind the memory", x.go(1), 3);
        due("state(0)", x.state(0), 16384);
        x = Order.machine(0, 0x00008067);
        x.set(1, 6);
        due("a jump to half an order", x.go(1), 0);
        due("state(0)", x.state(0), 6);
        due("the stop is at its goal", x.go(1), 3);
        x = Order.machine(0, 0x00008067);
        x.set(1, 9);
        x.go(1);
        due("JALR leaves out the last bit", x.state(0), 8);
        x = Order.machine(0, 0x00008067);
        x.set(1, -4);
        due("a jump before the memory", x.go(1), 0);
        due("state(0)", x.state(0), -4);
        due("go(1)", x.go(1), 3);
        x = Order.machine(0, 0x000080E7);
        x.set(1, 64);
        x.go(1);
        due("JALR takes its goal before it links", x.state(0), 64);
        due("JALR links", x.get(1), 4);
    }

    private static void cacheAndCycles() {
        // One order in each of the sets 0 (three lines of it), then back to see which line went.
        QuietDesk x = new QuietDesk();
        x.poke(512, Order.lw(1, 0, 0));
        x.poke(516, Order.lw(1, 0, 256));
        x.poke(520, Order.lw(1, 0, 0));
        x.poke(524, 115);
        x.start(512);
        due("go(1)", x.go(1), 0);
        due("misses: the order's line, then the place's", x.state(3), 2);
        due("cycles", x.state(2), 41);
        due("go(1)", x.go(1), 0);
        due("the order's line was used last, so place 0 goes", x.state(3), 3);
        due("go(1)", x.go(1), 0);
        due("and 0 is a miss again", x.state(3), 4);
        due("cycles", x.state(2), 3 + 80);
        x = Order.machine(0, Order.plain(1, 0, 3, 1, 2), Order.plain(1, 1, 3, 1, 2), Order.plain(1, 2, 3, 1, 2),
            Order.plain(1, 3, 3, 1, 2));
        due("go(4)", x.go(4), 0);
        due("cycles of products", x.state(2), 4 * 4 + 20);
        x = Order.machine(0, Order.plain(1, 4, 3, 1, 2), Order.plain(1, 5, 3, 1, 2), Order.plain(1, 6, 3, 1, 2),
            Order.plain(1, 7, 3, 1, 2));
        due("go(4)", x.go(4), 0);
        due("cycles of divisions", x.state(2), 4 * 33 + 20);
        x = Order.machine(0, 0x00101463, 0x00000463);
        due("go(1): a branch that is not taken", x.go(1), 0);
        due("cycles", x.state(2), 21);
        due("go(1): one that is", x.go(1), 0);
        due("cycles", x.state(2), 23);
        due("state(0)", x.state(0), 12);
        for (int set = 0; set < 16; set++) {
            x = Order.machine(0, Order.lw(1, 2, 0), Order.lw(1, 3, 0), Order.lw(1, 2, 0), Order.lw(1, 3, 0));
            x.set(2, 1024 + 16 * set);
            x.set(3, 1024 + 256 + 16 * set);
            x.go(4);
            // In set 0 three lines take turns with the orders' own one between: all loads miss.
            due("misses with set " + set, x.state(3), set == 0 ? 5 : 3);
        }
    }

    // 18
    private static void state() {
        QuietDesk x = Order.machine(128, Order.addi(1, 0, 1), Order.sw(1, 0, 256), 115);
        x.go(5);
        due("state(0)", x.state(0), 136);
        due("state(1)", x.state(1), 2);
        due("state(2)", x.state(2), 42);
        due("state(3)", x.state(3), 2);
        due("state(4)", x.state(4), NONE);
        due("state(-1)", x.state(-1), NONE);
        due("state(LEAST)", x.state(LEAST), NONE);
        x = new QuietDesk();
        x.poke(0, Order.addi(1, 0, 1));
        x.poke(4, 115);
        due("go from the beginning", x.go(9), 1);
        due("state(0)", x.state(0), 4);
        due("state(2)", x.state(2), 21);
    }

    private static long trailOf(int... events) {
        long h = 0;
        for (int e : events) {
            h = h * FACTOR + e + 1;
        }
        return h;
    }

    // 19
    private static void trail() {
        QuietDesk x = Order.machine(64, Order.addi(1, 0, -5), Order.sw(1, 0, 256), Order.lw(2, 0, 260),
            Order.plain(1, 5, 3, 1, 2), Order.plain(1, 6, 3, 2, 1), Order.plain(1, 0, 3, 1, 1), 0x0000006F | 4 << 21, 115, 115);
        due("trail()", x.trail(), 0);
        due("go(9)", x.go(9), 1);
        due("trail()", x.trail(), trailOf(64, 68, 256, 72, 260, 76, -5, 0, 80, 0, -5, 84, 88));
        x = Order.machine(0, Order.addi(0, 0, 0));
        x.go(1);
        due("trail() of the place 0", x.trail(), 1);
    }
}
