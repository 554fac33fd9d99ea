import java.util.Arrays;

/**
 * The boundary cases that the document names for promises 1 to 5, and for the sentences of the Terms
 * that they rest on: the tape, tokens, the grammar with its fault, and what is wrong. One method for
 * each sentence, which stands above it.
 */
public final class ReadingEdgesTest {
    private static final int NONE = QuietDesk.NONE;
    private static final int LEAST = Integer.MIN_VALUE;
    private static final int GREATEST = Integer.MAX_VALUE;
    private static final int BLANKS = 0x20202020;
    private static final String SIGNS = "()[]{};=+-*/%&|^~!<";
    private static final Bench bench = new Bench();

    public static void main(String[] args) {
        bench.every(ReadingEdgesTest.class);
        bench.end("ReadingEdgesTest");
    }

    private static void due(String call, long got, long want) {
        bench.due(call, got, want);
    }

    private static void due(String call, boolean got, boolean want) {
        bench.due(call, got, want);
    }

    private static boolean isLetter(int b) {
        return b >= 65 && b <= 90 || b >= 97 && b <= 122;
    }

    private static boolean isDigit(int b) {
        return b >= 48 && b <= 57;
    }

    private static String nest(String open, int count, String inner, String close) {
        return open.repeat(count) + inner + close.repeat(count);
    }

    /** What an object answers that has no program. */
    private static void hasNoProgram(String when, QuietDesk x) {
        for (int what = -1; what <= 3; what++) {
            due("count(" + what + ") " + when, x.count(what), NONE);
            due("ran(" + what + ") " + when, x.ran(what), NONE);
        }
        due("input(0, 1) " + when, x.input(0, 1), false);
        due("run(0) " + when, x.run(0), NONE);
        due("run(2000) " + when, x.run(2000), NONE);
        due("ran(1) after these " + when, x.ran(1), NONE);
        due("out(0) " + when, x.out(0), 0);
        due("word(0) " + when, x.word(0), 0);
        due("quiet() " + when, x.quiet(), true);
    }

    // Promise 1

    /** "An empty tape" */
    private static void newObjectHasAnEmptyTape() {
        due("load(1)", new QuietDesk().load(1), NONE);
        due("load(20)", new QuietDesk().load(20), NONE);
        due("load(0)", new QuietDesk().load(0), 0);
        due("feed", new QuietDesk().feed(0, 0, 0, 0, 0), 20);
    }

    /** "no program" */
    private static void newObjectHasNoProgram() {
        hasNoProgram("of a new object", new QuietDesk());
    }

    /** Two objects have nothing in common. */
    private static void newObjectIsNewBesideAnother() {
        QuietDesk other = Bench.loaded("pub in a;out a;");
        other.input(0, 5);
        other.run(9);
        Bench.feed(other, "pub a;");
        QuietDesk x = new QuietDesk();
        hasNoProgram("beside another object", x);
        due("load(1)", x.load(1), NONE);
        Bench.load(x, "@");
        due("the other's out(0)", other.out(0), 5);
        due("the other's count(1)", other.count(1), 1);
        due("the other's tape", other.load(6), 0);
    }

    // Promise 2

    /** "Twenty bytes more ..: how many there are." */
    private static void feedAnswersHowManyThereAre() {
        QuietDesk x = new QuietDesk();
        for (int i = 1; i <= 150; i++) {
            due("feed " + i, x.feed(BLANKS, BLANKS, BLANKS, BLANKS, BLANKS), 20 * i);
        }
    }

    /** "NONE .. when there would be more than 3000." */
    private static void feedIsRefusedBeyond3000() {
        QuietDesk x = full(-1, 32);
        for (int i = 0; i < 3; i++) {
            due("feed of the 3001st byte", x.feed(BLANKS, BLANKS, BLANKS, BLANKS, BLANKS), NONE);
        }
        due("load(3001)", x.load(3001), NONE);
        due("load(3020)", x.load(3020), NONE);
        due("load(3000)", x.load(3000), 0);
        due("feed when the tape is empty again", x.feed(0, 0, 0, 0, 0), 20);
    }

    /** A tape of 3000 blanks but for one byte. */
    private static QuietDesk full(int place, int other) {
        QuietDesk x = new QuietDesk();
        byte[] bytes = new byte[3000];
        Arrays.fill(bytes, (byte) 32);
        if (place >= 0) {
            bytes[place] = (byte) other;
        }
        Bench.feed(x, new String(bytes, java.nio.charset.StandardCharsets.ISO_8859_1));
        return x;
    }

    /** "NONE, changing nothing" */
    private static void refusedFeedChangesNothing() {
        for (int place : new int[] {0, 19, 20, 2979, 2980, 2999}) {
            QuietDesk x = full(place, '@');
            due("feed of blanks", x.feed(BLANKS, BLANKS, BLANKS, BLANKS, BLANKS), NONE);
            due("load(3000)", x.load(3000), -2);
            due("the byte at " + place + " stayed", x.told(0), place);
        }
        QuietDesk x = full(-1, 32);
        due("feed of what is no token", x.feed(-1, -1, -1, -1, -1), NONE);
        due("none of it is on the tape", x.load(3000), 0);
        x = Bench.loaded("pub in a;out a;");
        x.input(0, 8);
        x.run(9);
        for (int i = 0; i < 150; i++) {
            x.feed(BLANKS, BLANKS, BLANKS, BLANKS, BLANKS);
        }
        due("feed beyond 3000", x.feed(-1, -1, -1, -1, -1), NONE);
        due("out(0) of the program that was there", x.out(0), 8);
        due("count(1) of it", x.count(1), 1);
        due("told(0)", x.told(0), NONE);
    }

    /** "the highest byte of each first": a byte at each of the twenty places, high ones too. */
    private static void feedTakesTheHighestByteFirst() {
        for (int place = 0; place < 20; place++) {
            for (int b : new int[] {'@', 0, 127, 128, 255}) {
                int[] v = {BLANKS, BLANKS, BLANKS, BLANKS, BLANKS};
                int shift = 24 - place % 4 * 8;
                v[place / 4] = v[place / 4] & ~(255 << shift) | b << shift;
                QuietDesk x = new QuietDesk();
                x.feed(v[0], v[1], v[2], v[3], v[4]);
                due("load(20) with the byte " + b + " at " + place, x.load(20), -2);
                due("told(0) with the byte " + b + " at " + place, x.told(0), place);
            }
        }
    }

    // Promise 3

    /** "NONE .. when n is not 0 .. the number of bytes": too small. */
    private static void loadOfLessThanNothing() {
        QuietDesk x = new QuietDesk();
        Bench.feed(x, "pub a;");
        due("load(-1)", x.load(-1), NONE);
        due("load(-20)", x.load(-20), NONE);
        due("load(LEAST)", x.load(LEAST), NONE);
        due("load(6)", x.load(6), 0);
    }

    /** "NONE .. when n is not 0 .. the number of bytes": too large. */
    private static void loadOfMoreThanThereIs() {
        QuietDesk x = new QuietDesk();
        due("load(1) of 0", x.load(1), NONE);
        for (int bytes = 20; bytes <= 3000; bytes += 20) {
            x.feed(BLANKS, BLANKS, BLANKS, BLANKS, BLANKS);
            due("load(" + (bytes + 1) + ") of " + bytes, x.load(bytes + 1), NONE);
        }
        due("load(GREATEST)", x.load(GREATEST), NONE);
        due("load(3000) of 3000", x.load(3000), 0);
    }

    /** "NONE, changing nothing": the tape. */
    private static void refusedLoadLeavesTheTape() {
        QuietDesk x = new QuietDesk();
        Bench.feed(x, "pub in a; out a+1;  ");
        due("load(21)", x.load(21), NONE);
        due("load(-1)", x.load(-1), NONE);
        due("feed", x.feed(BLANKS, BLANKS, BLANKS, BLANKS, 0x20202040), 40);
        due("load(41)", x.load(41), NONE);
        due("load(40)", x.load(40), -2);
        due("told(0)", x.told(0), 39);
    }

    /** "NONE, changing nothing": the program, its inputs, and its latest runs. */
    private static void refusedLoadLeavesTheProgram() {
        QuietDesk x = Bench.loaded("pub in a;pub b;b=a*2;out b;");
        x.input(0, 21);
        x.run(1);
        x.run(2);
        for (int n : new int[] {1, -1, LEAST, GREATEST}) {
            due("load(" + n + ")", x.load(n), NONE);
            due("told(0)", x.told(0), NONE);
            due("told(1)", x.told(1), NONE);
            due("count(0)", x.count(0), 2);
            due("ran(0)", x.ran(0), NONE);
            due("ran(1)", x.ran(1), 2);
            due("ran(2)", x.ran(2), 1);
            due("out(0)", x.out(0), 42);
            due("word(1)", x.word(1), 42);
            due("quiet()", x.quiet(), true);
        }
        due("run(5)", x.run(5), 0);
        due("the input stayed", x.word(1), 42);
    }

    /** "NONE, changing nothing": what is told of the load before, and that there is no program. */
    private static void refusedLoadLeavesWhatIsTold() {
        QuietDesk x = Bench.loaded("pub a;@");
        due("load(1)", x.load(1), NONE);
        due("told(0) of the fault", x.told(0), 6);
        due("told(1) of the fault", x.told(1), 0);
        hasNoProgram("after a fault and a refused load", x);
        Bench.load(x, "pub a;pub b[65];");
        due("load(-1)", x.load(-1), NONE);
        due("told(0) of what is wrong", x.told(0), 12);
        due("told(1) of what is wrong", x.told(1), 2);
        hasNoProgram("after something wrong and a refused load", x);
    }

    /** "The first n bytes are a program": n is 0, and n is all of them. */
    private static void loadOfNothingAndOfAll() {
        QuietDesk x = new QuietDesk();
        Bench.feed(x, "@@@@@@@@@@@@@@@@@@@@");
        due("load(0) of 20", x.load(0), 0);
        due("count(0)", x.count(0), 0);
        due("run(0)", x.run(0), 0);
        due("load(0) of 0", x.load(0), 0);
        Bench.feed(x, "pub a;pub b;pub cd ;");
        due("load(20) of 20", x.load(20), 0);
        due("count(0)", x.count(0), 3);
    }

    /** "The first n bytes are a program": what lies behind them is not seen, not even by the last token. */
    private static void loadSeesTheFirstBytesAlone() {
        String[] cut = {"pub a;a=#|x", "pub a;a=1#|x;", "pub a;a=1#|in;", "pub a;a=2147483647#|0;", "pub a;a=0#|0;",
            "pub abcdefghij#|k;", "pub a;a=1#>|>1;", "pub a;a=1>>#|>", "pub a;a=1<#|<1;", "pub a;a=#|=", "pub in#|a;",
            "pub#| ", "pub a;ou#|t 1;", "pub a;whil#|e(0){}", "pub a;a#|b=1;", "pub a#|[3];"};
        for (String text : cut) {
            String whole = text.replace("#", "").replace("|", "");
            int n = text.replace("#", "").indexOf('|');
            QuietDesk x = new QuietDesk();
            Bench.feed(x, whole);
            due("load(" + n + ") of " + whole, x.load(n), -2);
            due("told(0) of " + whole, x.told(0), text.indexOf('#'));
        }
        QuietDesk x = new QuietDesk();
        Bench.feed(x, "pub a;pub a;@");
        due("load(6)", x.load(6), 0);
        Bench.feed(x, "pub a;pub a;@");
        due("load(12)", x.load(12), -3);
    }

    /** "and the tape is empty": after each of the three answers, and what was on it never comes back. */
    private static void loadEmptiesTheTape() {
        String[] texts = {"pub in a;out a;", "pub in a;out", "pub in a;out b;"};
        for (String text : texts) {
            for (int n : new int[] {text.length(), 0}) {
                QuietDesk x = new QuietDesk();
                Bench.feed(x, text);
                x.load(n);
                due("load(1) after " + text, x.load(1), NONE);
                due("load(20) after " + text, x.load(20), NONE);
                due("feed after " + text, x.feed(BLANKS, BLANKS, BLANKS, BLANKS, BLANKS), 20);
                due("load(20) of blanks alone", x.load(20), 0);
                due("count(0) of them", x.count(0), 0);
            }
        }
        QuietDesk x = new QuietDesk();
        for (int i = 0; i < 150; i++) {
            x.feed(-1, -1, -1, -1, -1);
        }
        due("load(3000)", x.load(3000), -2);
        due("feed", x.feed(BLANKS, BLANKS, BLANKS, BLANKS, BLANKS), 20);
    }

    /** "-2 a fault .. (there is no program then)" */
    private static void noProgramAfterAFault() {
        QuietDesk x = Bench.loaded("pub in a;out a+1;");
        x.run(9);
        x.run(9);
        due("load", Bench.load(x, "pub in a;out a+1"), -2);
        hasNoProgram("after a fault", x);
    }

    /** "-3 something is wrong (there is no program then)" */
    private static void noProgramAfterSomethingWrong() {
        QuietDesk x = Bench.loaded("pub in a;out a+1;");
        x.run(9);
        x.run(9);
        due("load", Bench.load(x, "pub in a;pub r[3];out r;"), -3);
        hasNoProgram("after something wrong", x);
        due("load of a right one", Bench.load(x, "pub in a;"), 0);
        due("count(1)", x.count(1), 1);
    }

    /** "Inputs are 0." */
    private static void loadMakesInputsZero() {
        QuietDesk x = new QuietDesk();
        String text = "pub in a[64];sec in b[64];pub in c[64];sec in d[8];";
        Bench.load(x, text);
        for (int k = 0; k < 200; k++) {
            due("input(" + k + ")", x.input(k, k + 1), true);
        }
        due("run(0)", x.run(0), 0);
        due("word(199)", x.word(199), 200);
        due("load of the same", Bench.load(x, text), 0);
        due("run(0)", x.run(0), 0);
        for (int k = 0; k < 200; k++) {
            due("word(" + k + ") after load", x.word(k), 0);
        }
    }

    /** Nothing of an earlier load is left, wherever it ended: all pairs of programs, right, with a fault, or wrong. */
    private static void loadLeavesNothingOfTheOneBefore() {
        String[] texts = {"", "pub in a;sec in k;sec r[3];", "sec in k;if(k){out 1;}", "sec k;pub a;if(k){if(a){}else{k=1/2;}}",
            "pub a;if(1){a=(", "pub r[64];pub s[64];pub t[64];pub u[9];", "pub in r[3];pub i;while(i<3){out r[i];i=i+1;}out r[i];",
            "sec in k;sec a;if(k){a=1;if(a){a=2;}}else{a=3;}", "pub a;a=((((1+2)*3)|4)<<1);out a;out a;", "sec k;pub a;a=k;",
            "pub in i;pub r[2];r[i]=r[1]+r[0];out r[0];if(i){out 7;}", "pub a;while(1){if(a<5){a=a+1;}else{a=0;}}", "@", "pub"};
        for (String first : texts) {
            for (String second : texts) {
                QuietDesk fresh = Bench.loaded(second);
                QuietDesk x = Bench.loaded(first);
                x.input(0, 1);
                x.run(40);
                x.run(40);
                Bench.load(x, second);
                same(first + " then " + second, x, fresh);
            }
        }
    }

    /** Loads on one object, each a byte or some bytes longer or shorter than the one before; every byte is a token. */
    private static void loadOfMoreAndMore() {
        ReferenceGrammar grammar = new ReferenceGrammar();
        String text = "a=b*(c-2)/d|-3;e[f]=g[h+!4]%(5^i)&~j;k=l<m;n=o[p[q]];";
        for (int by : new int[] {1, 2, 19, 20, 21, -1}) {
            QuietDesk x = new QuietDesk();
            for (int n = by < 0 ? text.length() : 0; n >= 0 && n <= text.length(); n += by) {
                String first = text.substring(0, n);
                int fault = grammar.fault(first);
                // Without a fault the a is wrong, as it was not declared; nothing at all is right.
                due("load of " + first, Bench.load(x, first), fault >= 0 ? -2 : n == 0 ? 0 : -3);
                due("told(0) of " + first, x.told(0), fault >= 0 ? fault : n == 0 ? NONE : 0);
            }
        }
    }

    /** Two objects that loaded the same answer the same, before a run and after some. */
    private static void same(String name, QuietDesk x, QuietDesk y) {
        for (int run = -1; run < 12; run++) {
            if (run >= 0) {
                due(name + ": run(" + run * 5 + ")", x.run(run * 5), y.run(run * 5));
            }
            for (int what = 0; what < 3; what++) {
                due(name + ": told(" + what + ")", x.told(what), y.told(what));
                due(name + ": count(" + what + ")", x.count(what), y.count(what));
                due(name + ": ran(" + what + ")", x.ran(what), y.ran(what));
            }
            for (int i = 0; i < 6; i++) {
                due(name + ": out(" + i + ")", x.out(i), y.out(i));
                due(name + ": word(" + i + ")", x.word(i), y.word(i));
            }
            due(name + ": quiet()", x.quiet(), y.quiet());
            due(name + ": input(0)", x.input(0, run - 2), y.input(0, run - 2));
        }
    }

    /** A program as long as the tape: every byte of it is read. */
    private static void loadOfTheLongestPrograms() {
        String text = "pub a;" + "a=a+1;".repeat(499);
        due("its length", text.length(), 3000);
        QuietDesk x = bench.ran(text, 2000, 0);
        due("word(0)", x.word(0), 499);
        bench.fault(text.substring(0, 2999) + "@", 2999);
        bench.fault(text.substring(0, 2999), 2999);
        bench.right("pub a;a=" + " ".repeat(2990) + "1;");
        bench.fault(" ".repeat(2999) + "1", 2999);
        bench.right("\n".repeat(3000));
        bench.fault("a".repeat(3000), 0);
        bench.fault("pub a;a=" + "1".repeat(2992), 8);
        bench.fault("{".repeat(3000), 0);
        bench.fault("pub a;a=" + "(".repeat(2992), 8 + 15);
        bench.fault("pub a;a=" + "-".repeat(2992), 8 + 30);
        bench.fault("pub a;" + "if(1){".repeat(499), 6 + 180 + 3);
    }

    // Promise 4

    /** "NONE when there was neither, or none": before the first load, and after a right one. */
    private static void toldOfNothing() {
        QuietDesk x = new QuietDesk();
        due("told(0) before", x.told(0), NONE);
        due("told(1) before", x.told(1), NONE);
        x.load(1);
        due("told(0) after a refused load", x.told(0), NONE);
        due("told(1) after a refused load", x.told(1), NONE);
        for (String bad : new String[] {"@", "a=1;"}) {
            Bench.load(x, bad);
            due("told(0) of " + bad, x.told(0), 0);
            x.load(0);
            due("told(0) after a right load", x.told(0), NONE);
            due("told(1) after a right load", x.told(1), NONE);
        }
    }

    /** "or for others" */
    private static void toldOfOthers() {
        for (String text : new String[] {"", "@", "a=1;"}) {
            QuietDesk x = Bench.loaded(text);
            for (int what : new int[] {-1, 2, 3, 256, LEAST, GREATEST}) {
                due("told(" + what + ") after " + text, x.told(what), NONE);
            }
        }
    }

    /** "the latest load()": a fault after something wrong, and the other way round. */
    private static void toldOfTheLatestLoad() {
        QuietDesk x = Bench.loaded("pub a;out b;");
        due("told(0)", x.told(0), 10);
        due("told(1)", x.told(1), 1);
        Bench.load(x, "pub a");
        due("told(0)", x.told(0), 5);
        due("told(1), 0 for a fault", x.told(1), 0);
        Bench.load(x, "pub a[0];");
        due("told(0)", x.told(0), 6);
        due("told(1)", x.told(1), 2);
    }

    /** "the place (from 0)": the first byte and the last one. */
    private static void toldPlacesFromZero() {
        bench.fault("@", 0);
        bench.wrong(1, "#a=1;");
        bench.fault(" ".repeat(2999) + ";", 2999);
        bench.fault("pub a;" + " ".repeat(2993) + "a", 3000);
        bench.wrong(1, " ".repeat(2996) + "#a=1;");
    }

    // Promise 5

    /** "NONE when there is none" */
    private static void countWithoutAProgram() {
        QuietDesk x = new QuietDesk();
        for (int what = 0; what < 3; what++) {
            due("count(" + what + ") before", x.count(what), NONE);
        }
        for (String bad : new String[] {"pub in a;@", "pub in a;b=1;"}) {
            Bench.load(x, "pub in a;");
            due("count(2)", x.count(2), 1);
            Bench.load(x, bad);
            for (int what = 0; what < 3; what++) {
                due("count(" + what + ") after " + bad, x.count(what), NONE);
            }
        }
    }

    /** "or for others" */
    private static void countOfOthers() {
        QuietDesk x = Bench.loaded("pub in a;");
        for (int what : new int[] {-1, 3, 4, 256, LEAST, GREATEST}) {
            due("count(" + what + ")", x.count(what), NONE);
        }
    }

    /** "words declared, inputs, public inputs": none, and as many as there can be. */
    private static void countOfNoneAndOfTheMost() {
        counts("", 0, 0, 0);
        counts("sec a;pub b[2];", 3, 0, 0);
        counts("sec in a[64];sec in b[64];sec in c[64];sec in d[8];", 200, 200, 0);
        counts("pub in a[64];pub in b[64];pub in c[64];pub in d[8];", 200, 200, 200);
        counts("pub a[64];sec b[64];pub c[64];sec d[7];pub in e;", 200, 1, 1);
        counts("pub in a[1];sec in b[1];pub c[1];sec d[1];", 4, 2, 1);
    }

    private static void counts(String text, int words, int inputs, int publicInputs) {
        QuietDesk x = Bench.loaded(text);
        due("count(0) of " + text, x.count(0), words);
        due("count(1) of " + text, x.count(1), inputs);
        due("count(2) of " + text, x.count(2), publicInputs);
    }

    // The tape and tokens

    /** "BLANKS are the bytes 9, 10, 13, 32": of all 256. */
    private static void blanksAreFourBytes() {
        for (int b = 0; b < 256; b++) {
            String text = "pub" + (char) b + "a;";
            if (b == 9 || b == 10 || b == 13 || b == 32) {
                bench.right(text);
                bench.right((char) b + text + (char) b);
            } else if (isLetter(b) || isDigit(b)) {
                bench.fault(text, 5);
            } else {
                bench.fault(text, 3);
            }
        }
    }

    /** "a letter, then all letters and digits that stand there": which of 256 bytes may begin and which go on. */
    private static void namesOfLettersAndDigits() {
        for (int b = 0; b < 256; b++) {
            boolean blank = b == 9 || b == 10 || b == 13 || b == 32;
            if (isLetter(b)) {
                bench.right("pub " + (char) b + ";");
            } else {
                bench.fault("pub " + (char) b + ";", blank ? 5 : 4);
            }
            if (isLetter(b) || isDigit(b)) {
                bench.right("pub a" + (char) b + ";");
            } else if (blank || b == ';') {
                bench.loads("pub a" + (char) b + ";", b == ';' ? -2 : 0, b == ';' ? 6 : NONE, b == ';' ? 0 : NONE);
            } else {
                bench.fault("pub a" + (char) b + ";", b == '[' ? 6 : 5);
            }
        }
    }

    /** "of more than 10 bytes there is no token at its first one" */
    private static void namesOfMoreThanTenBytes() {
        bench.right("pub a;pub in ab;pub abcdefghij;sec in A123456789;abcdefghij=ab;");
        bench.fault("pub #abcdefghijk;");
        bench.fault("pub #A1234567890;");
        bench.fault("pub a;#abcdefghijk=1;");
        bench.fault("pub a;a=1+#abcdefghijk;");
        bench.fault("pub a;#abcdefghijk");
        bench.fault("pub #whilewhilew;");
        bench.right("pub whilewhile;");
        // No program goes on with another NAME there, but it is a NAME of ten bytes, and so a token.
        bench.fault("pub a #abcdefghij;");
        bench.wrong(1, "pub abcdefghij;pub abcdefghik;pub #abcdefghij;");
    }

    /** "but pub, sec, in, out, if, else, while are WORDS": they alone, and whole. */
    private static void wordsAreNoNames() {
        for (String word : new String[] {"pub", "sec", "in", "out", "if", "else", "while"}) {
            bench.fault("pub in #" + word + ";");
            bench.fault("pub a;a=#" + word + ";");
            bench.right("pub " + word + "1;pub " + word + "x;pub x" + word + ";");
            String upper = word.toUpperCase(java.util.Locale.ROOT);
            bench.right("pub " + upper + ";" + upper + "=1;");
            String shorter = word.substring(0, word.length() - 1);
            bench.right("pub " + shorter + ";");
        }
        bench.fault("pub a;ifa#(1){}");
        bench.fault("pub a;out1#;");
        bench.fault("pub a;outa#;");
        bench.fault("puba#;");
        bench.right("pub ina;");
    }

    /** "at most 2147483647": also where a number of 32 or 64 bits would run over to a small one. */
    private static void numbersAreNotTooLarge() {
        due("the greatest", bench.ran("pub a;a=2147483647;", 1, 0).word(0), GREATEST);
        String[] tooLarge = {"2147483648", "2147483650", "2147484000", "2200000000", "3000000000", "4294967295",
            "4294967296", "4294967297", "9999999999", "10000000000", "21474836470", "9223372036854775807",
            "9223372036854775808", "18446744073709551615", "18446744073709551616", "18446744073709551617",
            "36893488147419103233", "340282366920938463463374607431768211457"};
        for (String number : tooLarge) {
            bench.fault("pub a;a=#" + number + ";");
            bench.fault("pub a[#" + number + "];");
            bench.fault("pub a;a=-#" + number + ";");
        }
    }

    /** "0 in front for 0 alone" */
    private static void numbersWithZeroInFront() {
        due("0", bench.ran("pub a;a=7;a=0;", 2, 0).word(0), 0);
        due("10", bench.ran("pub a;a=10;", 1, 0).word(0), 10);
        for (String number : new String[] {"00", "01", "09", "000", "010", "02147483647", "00000000000000000000000"}) {
            bench.fault("pub a;a=#" + number + ";");
        }
        bench.wrong(2, "pub a[#0];");
        bench.fault("pub a[#00];");
        bench.fault("pub a[#01];");
    }

    /** "no letter behind": each of 256 bytes behind a number. */
    private static void numbersWithNoLetterBehind() {
        for (int b = 0; b < 256; b++) {
            String text = "pub a;a=1" + (char) b + ";";
            boolean blank = b == 9 || b == 10 || b == 13 || b == 32;
            if (blank || isDigit(b)) {
                bench.right(text);
            } else if (isLetter(b)) {
                bench.fault(text, 8);
            } else {
                boolean goesOn = "+-*/%&|^<;".indexOf(b) >= 0;
                bench.fault(text, goesOn ? 10 : 9);
            }
        }
        bench.fault("pub a;a=#0x1;");
        bench.fault("pub a;a=1 #x;");
        bench.fault("pub a;a=#12in;");
        bench.fault("pub a[#3a];");
    }

    /** "and the SIGNS": no other byte is one. */
    private static void signsAreTheseAlone() {
        for (int b = 0; b < 256; b++) {
            boolean blank = b == 9 || b == 10 || b == 13 || b == 32;
            if (!blank && !isLetter(b) && !isDigit(b) && SIGNS.indexOf(b) < 0) {
                bench.fault("pub a;a=" + (char) b + ";", 8);
                bench.fault("pub a;a=1" + (char) b + "1;", 9);
                bench.fault("pub a;a=1" + (char) b, 9);
            }
        }
        bench.fault("pub a;a=1#>2;");
        bench.fault("pub a;a=1#> >2;");
        bench.fault("pub a;a=1#>=2;");
        bench.right("pub a;a=1>>2;");
    }

    /** "the longest that can be read at a place" */
    private static void tokensAreTheLongest() {
        bench.fault("pub a;a#==1;");
        bench.fault("pub a;a= #=1;");
        bench.fault("pub a;a=1==#=1;");
        bench.fault("pub a;a=1<=#=1;");
        bench.fault("pub a;a=1<<#=1;");
        bench.fault("pub a;a=1<<#<1;");
        bench.fault("pub a;a=1< #<1;");
        bench.fault("pub a;a=1< #=1;");
        bench.fault("pub a;a=1>>#>1;");
        bench.fault("pub a;a=1#!=1;");
        bench.right("pub a;a=1<=1==1<<1>>1<1;");
        bench.right("pub a;a=1==-1<~1<=!1<<-1>>~1;");
        bench.right("pub a;a=- -1- - -1;");
        bench.right("pub a;a=--1---1;");
        bench.right("pub a1;a1=1;");
        bench.wrong(1, "pub a;#a1=1;");
        bench.fault("pub a #1;");
    }

    // The grammar

    /** "DECLARATIONS, none or more, then STATEMENTS, none or more" */
    private static void declarationsThenStatementsNoneOrMore() {
        bench.right("");
        bench.right("pub a;");
        bench.right("out 1;");
        bench.right("pub a;out 1;");
        bench.right("pub a;sec b;pub in c;sec in d;pub e[1];sec f[1];pub in g[1];sec in h[1];");
        bench.right("out 1;out 2;if(1){}while(0){}");
        bench.fault("out 1;#pub a;");
        bench.fault("if(1){}#sec a;");
        bench.fault("pub a;#;");
        bench.fault("out 1;#;");
        bench.fault("#in a;");
    }

    /** "BLOCK: { STATEMENTS }": none, one, and no DECLARATION. */
    private static void blocksOfNoneOrMore() {
        bench.right("if(1){}");
        bench.right("if(1){}else{}");
        bench.right("while(0){}");
        bench.right("if(1){out 1;out 2;}else{out 3;out 4;}");
        bench.fault("if(1){#pub a;}");
        bench.fault("if(1){#;}");
        bench.fault("if(1){#{}}");
        bench.fault("if(1){}#;");
        bench.fault("if(1){}#}");
        bench.fault("if(1)#;");
        bench.fault("while(1)#out 1;");
        bench.fault("if(1){}else #if(1){}");
        bench.fault("if(1){}else{}#else{}");
        bench.fault("while(1){}#else{}");
        bench.fault("#else{}");
        bench.fault("#{}");
    }

    /** Nothing is empty but what may have none: EXPRs, [ ], ( ), UNARYs. */
    private static void expressionsAreNotEmpty() {
        bench.fault("a=#;");
        bench.fault("a[#]=1;");
        bench.fault("a[1]=#;");
        bench.fault("a=b[#];");
        bench.fault("a=(#);");
        bench.fault("if(#){}");
        bench.fault("while(#){}");
        bench.fault("out#;");
        bench.fault("pub a[#];");
        bench.fault("a=-#;");
        bench.fault("a=~#;");
        bench.fault("a=!#;");
        for (String sign : new String[] {"|", "^", "&", "==", "<", "<=", "<<", ">>", "+", "-", "*", "/", "%"}) {
            bench.fault("a=1" + sign + "#;");
            if (!sign.equals("-")) {
                bench.fault("a= #" + sign + "1;");
                bench.fault("a=1+#" + sign + "1;");
            }
        }
        bench.fault("a=1#~1;");
        bench.fault("a=1#!1;");
        bench.fault("a=1#(1);");
        bench.fault("a=b#(1);");
        bench.fault("a=1#[1];");
        bench.fault("a=(b)#[1];");
        bench.fault("a=b[1]#[1];");
        bench.fault("a#+1;");
        bench.fault("a[1]#[1]=1;");
    }

    /** "the end (place n)": a program cut at each of its bytes; where a word is cut, a NAME could stand too. */
    private static void faultAtTheEnd() {
        String text = "pub in abc[12];sec k;abc[k]=(1+-~!abc[2])<<3;if(k){k=1;}else{out 12;}while(k){}";
        int[] wholes = {0, 15, 21, 45, 56, 69, text.length()};
        for (int n = 0; n <= text.length(); n++) {
            QuietDesk x = new QuietDesk();
            Bench.feed(x, text);
            int answer = x.load(n);
            boolean whole = Arrays.binarySearch(wholes, n) >= 0;
            due("load(" + n + ") has a fault", answer == -2, !whole);
            if (!whole) {
                due("told(0) of load(" + n + ")", x.told(0), n);
            }
        }
        bench.fault("pub  \n\t ", 8);
        bench.fault("pub a;a=1 \r\n", 12);
    }

    /** "the first token with which no program goes on .. or the first byte at which there is no token" */
    private static void faultIsTheFirst() {
        bench.fault("pub a;a=1 #2 @;");
        bench.fault("pub a;a=1 #@ 2;");
        bench.fault("pub a;#@ b=(;");
        bench.fault("pub a;b=#; @");
        bench.fault("pub a;a=1+#;abcdefghijkl");
        bench.fault("pub a;a=1;#@");
        bench.fault("pub a;a=1;#99999999999;");
    }

    /** "the first token with which no program goes on": every two tokens behind every kind of beginning. */
    private static void faultBehindEachBeginning() {
        ReferenceGrammar grammar = new ReferenceGrammar();
        String[] beginnings = {"", "pub", "sec in", "pub a", "pub a [", "pub a [ 1", "pub a [ 1 ]", "pub a ;", "a", "a =", "a = b",
            "a = b [", "a = b [ 1", "a = b [ 1 ]", "a = ( 1", "a = - 1", "a = 1 +", "a = 1 ;", "a [", "a [ 1", "a [ 1 ]", "if",
            "if (", "if ( 1", "if ( 1 )", "if ( 1 ) {", "if ( 1 ) { }", "if ( 1 ) { } else", "if ( 1 ) { } else {",
            "if ( 1 ) { } else { }", "while", "while (", "while ( 1", "while ( 1 )", "while ( 1 ) {", "while ( 1 ) { }", "out",
            "out 1", "if ( 1 ) { out 1 ;"};
        String[] tokens = {"pub", "in", "out", "if", "else", "while", "a", "1", "(", ")", "[", "]", "{", "}", ";", "=", "-", "!",
            "*", "==", "@"};
        for (String beginning : beginnings) {
            for (String one : tokens) {
                for (String other : tokens) {
                    String text = beginning + " " + one + " " + other;
                    int fault = grammar.fault(text);
                    QuietDesk x = new QuietDesk();
                    int answer = Bench.load(x, text);
                    due("load of " + text + " has a fault", answer == -2, fault >= 0);
                    due("told(0) of " + text, answer == -2 ? x.told(0) : NONE, fault);
                }
            }
        }
    }

    /** A fault is told before anything wrong, wherever it lies. */
    private static void faultBeforeWhatIsWrong() {
        bench.fault("pub a;pub a;pub b[0];a[1]=q;out#;");
        bench.fault("q=1;#@");
        bench.fault("sec k;while(k){out k;}#}");
    }

    /** "x = ( 1 ) ; : the 1 lies in three": so twice fourteen and one are 29, and fifteen are 31. */
    private static void unariesLieInAtMost30() {
        String head = "pub a;pub r[9];a=";
        bench.right(head + nest("(", 14, "1", ")") + ";");
        bench.right(head + nest("(", 14, "-1", ")") + ";");
        bench.right(head + nest("(", 14, "a", ")") + ";");
        bench.fault(head + nest("(", 14, "--#1", ")") + ";");
        bench.fault(head + nest("(", 14, "~!#a", ")") + ";");
        bench.fault(head + nest("(", 14, "-(#1)", ")") + ";");
        bench.fault(head + nest("(", 14, "-r[#1]", ")") + ";");
        bench.fault(head + nest("(", 14, "(#1)", ")") + ";");
        bench.fault(head + nest("(", 14, "r[#1]", ")") + ";");
        for (String sign : new String[] {"-", "~", "!"}) {
            bench.right(head + sign.repeat(29) + "1;");
            bench.fault(head + sign.repeat(30) + "#1;");
            bench.fault(head + sign.repeat(30) + "#" + sign + "1;");
        }
    }

    /** "An EXPR .. may lie in at most 30": in ( ) and in [ ], on both sides of a =, and in if, while and out. */
    private static void expressionsLieInAtMost30() {
        String head = "pub a;pub r[9];";
        String[] around = {"a=%;", "r[%]=1;", "r[1]=%;", "if(%){}", "while(%){}", "out %;"};
        for (String text : around) {
            bench.right(head + text.replace("%", nest("(", 14, "1", ")")));
            bench.right(head + text.replace("%", nest("r[", 14, "1", "]")));
            bench.fault(head + text.replace("%", "(".repeat(15) + "#1" + ")".repeat(15)));
            bench.fault(head + text.replace("%", "r[".repeat(15) + "#1" + "]".repeat(15)));
            // The UNARY before the ( or [ lies in 30, the EXPR in it in 31.
            bench.fault(head + text.replace("%", "-".repeat(29) + "(#1)"));
            bench.fault(head + text.replace("%", "-".repeat(29) + "r[#1]"));
        }
    }

    /** "A .. BLOCK may lie in at most 30", and the EXPRs and UNARYs in it count it too. */
    private static void blocksLieInAtMost30() {
        for (String open : new String[] {"if(1){", "while(0){", "if(1){}else{"}) {
            bench.right(nest(open, 30, "", "}"));
        }
        bench.right("pub a;" + nest("if(1){", 29, "a=1;out 1;while(0){}if(1){}else{}", "}"));
        bench.fault("pub a;" + nest("if(1){", 30, "a=#1;", "}"));
        bench.fault("pub r[1];" + nest("if(1){", 30, "r[#0]=1;", "}"));
        bench.fault(nest("if(1){", 30, "out #1;", "}"));
        bench.fault(nest("if(1){", 30, "if(#1){}", "}"));
        bench.fault(nest("while(0){", 30, "while(#1){}", "}"));
        bench.fault(nest("if(1){}else{", 30, "if(#1){}", "}"));
        bench.right("pub a;" + nest("if(1){", 15, "a=" + nest("(", 7, "1", ")") + ";", "}"));
        bench.fault("pub a;" + nest("if(1){", 15, "a=" + nest("(", 7, "(#1)", ")") + ";", "}"));
    }

    /** What lies side by side does not add up, and parts with signs between lie no deeper. */
    private static void depthIsOfWhatLiesAround() {
        String deep = nest("(", 14, "1", ")");
        bench.right("pub a;a=" + deep + "+" + deep + "*" + deep + "|" + deep + ";a=" + deep + ";");
        bench.right("pub a;a=" + nest("(", 14, "1|1^1&1==1<<1+1*1" + "+1".repeat(500), ")") + ";");
        bench.right(nest("if(1){", 30, "", "}").repeat(2) + nest("while(0){", 30, "", "}"));
        bench.right("pub a;" + nest("if(1){", 29, "a=1;", "}") + "a=" + "-".repeat(29) + "1;");
        bench.right("if(1){}".repeat(400));
        bench.right("pub a;a=" + "-".repeat(29) + "1" + ("-" + "-".repeat(29) + "1").repeat(20) + ";");
    }

    /** "(the first one of what lies in 31, too)": whatever stands there, a token or not, or the end. */
    private static void faultAtTheFirstOfWhatLiesIn31() {
        String head = "pub a;a=" + "(".repeat(15);
        for (String there : new String[] {"1", "a", "(", "-", "*", ")", ";", "@", "99999999999", ""}) {
            bench.fault(head + "#" + there);
            bench.fault(head + " \n#" + there);
        }
    }

    // What is wrong

    /** "1 a NAME that was declared before (in a DECLARATION)" */
    private static void wrong1InADeclaration() {
        String[] firsts = {"pub a;", "sec a;", "pub in a;", "sec a[3];"};
        String[] seconds = {"pub #a;", "sec #a;", "sec in #a;", "pub #a[3];", "sec in #a[64];"};
        for (String first : firsts) {
            for (String second : seconds) {
                bench.wrong(1, first + "pub b;" + second);
            }
        }
        bench.right("pub a;pub A;pub aa;pub a1;pub a2;pub a12;");
        bench.right("pub abcdefghij;pub abcdefghi;pub abcdefghik;pub bbcdefghij;");
        // Before it is asked how long the row is, and how many words there would be.
        bench.wrong(1, "pub a;pub #a[0];");
        bench.wrong(1, "pub a;pub #a[65];");
        bench.wrong(1, "pub a[64];pub b[64];pub c[64];pub d[8];pub #d;");
    }

    /** "or was not (elsewhere), at it" */
    private static void wrong1Elsewhere() {
        for (String text : new String[] {"#b=1;", "#b[1]=1;", "a=#b;", "a=#b[1];", "r[#b]=1;", "r[1]=#b;", "a=r[#b];",
            "if(#b){}", "while(#b){}", "out #b;", "if(a){#b=1;}", "if(a){}else{#b=1;}", "while(a){#b=1;}",
            "a=1+#b;", "a=(1-~#b);", "#A=1;", "#aa=1;", "out #a1;"}) {
            bench.wrong(1, "pub a;pub r[9];" + text);
        }
    }

    /** "2 a row that is not 1 .. 64 long (at the NUMBER)" */
    private static void wrong2OfTheNumber() {
        for (String level : new String[] {"pub ", "sec ", "pub in ", "sec in "}) {
            bench.right(level + "a[1];");
            bench.right(level + "a[64];");
            for (String length : new String[] {"0", "65", "66", "128", "256", "257", "65537", "2147483647"}) {
                bench.wrong(2, level + "a[#" + length + "];");
            }
        }
    }

    /** "or a row or single one with which there would be more than 200 words (at the NAME)" */
    private static void wrong2OfTheName() {
        String three = "pub a[64];sec b[64];pub in c[64];";
        bench.right(three + "pub d[8];");
        bench.right(three + "pub d[7];sec e;");
        bench.right(three + "pub d[7];sec e[1];");
        bench.wrong(2, three + "pub #d[9];");
        bench.wrong(2, three + "sec #d[64];");
        bench.wrong(2, three + "pub d[8];sec #e;");
        bench.wrong(2, three + "pub d[8];sec in #e[1];");
        bench.wrong(2, three + "pub d[7];sec #e[2];");
        bench.wrong(2, three + "pub d[8];sec #e;pub f[0];");
        StringBuilder singles = new StringBuilder();
        for (int i = 0; i < 200; i++) {
            singles.append("pub a").append(i).append(';');
        }
        bench.right(singles.toString());
        bench.wrong(2, singles + "pub #b;");
        bench.wrong(2, singles + "pub #b[1];");
        String oneLess = singles.substring("pub a0;".length());
        bench.right(oneLess + "pub b[1];");
        bench.wrong(2, oneLess + "pub #b[2];");
    }

    /** "of a DECLARATION 1, 2 of the NUMBER, 2 of the NAME" */
    private static void wrong2OfTheNumberFirst() {
        String full = "pub a[64];sec b[64];pub in c[64];pub d[8];";
        bench.wrong(2, full + "pub e[#0];");
        bench.wrong(2, full + "pub e[#65];");
        bench.wrong(2, full + "pub #e[1];");
        bench.wrong(1, full + "pub #a[65];");
    }

    /** "3 a row without [ ], or a single one with them (at the NAME)" */
    private static void wrong3() {
        String head = "pub a;pub r[1];sec k;sec s[64];";
        for (String text : new String[] {"#r=1;", "#s=1;", "#a[0]=1;", "#k[0]=1;", "a=#r;", "k=#s;", "a=#a[0];",
            "k=#k[0];", "out #r;", "if(#s){}", "while(#r){}", "r[#r]=1;", "r[0]=#r;", "a=r[#r];", "a=r[#a[0]];"}) {
            bench.wrong(3, head + text);
        }
    }

    /** "4 an EXPR in [ ] that is secret (at the [)" */
    private static void wrong4() {
        String head = "sec k;pub a;pub r[4];sec s[4];";
        for (String text : new String[] {"r#[k]=1;", "s#[k]=1;", "k=r#[k];", "k=s#[k];", "a=r #[ a+k ];", "k=s#[s[0]];",
            "k=s[r#[k]];", "if(s#[k]){}", "while(r#[k]){}", "out r#[k];", "r#[k*0]=1;", "r[a]=r#[k];"}) {
            bench.wrong(4, head + text);
        }
        bench.right(head + "k=s[r[a]];s[r[0]]=s[a];");
    }

    /** "5 / or % with a secret part (at the sign)" */
    private static void wrong5() {
        String head = "sec k;pub a;pub r[4];sec s[4];";
        for (String sign : new String[] {"/", "%"}) {
            bench.wrong(5, head + "k=k#" + sign + "a;");
            bench.wrong(5, head + "k=a#" + sign + "k;");
            bench.wrong(5, head + "k=k#" + sign + "k;");
            bench.wrong(5, head + "k=a#" + sign + "(1+-k);");
            bench.wrong(5, head + "k=a" + sign + "a#" + sign + "s[0];");
            bench.wrong(5, head + "k=k*a#" + sign + "a;");
            bench.wrong(5, head + "k=0#" + sign + "k+q;");
            bench.right(head + "k=k*(a" + sign + "a);k=k+a" + sign + "r[a];");
        }
    }

    /** "6 a secret EXPR of while (at while)" */
    private static void wrong6() {
        String head = "sec k;pub a;pub r[4];sec s[4];";
        bench.wrong(6, head + "#while(k){}");
        bench.wrong(6, head + "#while(s[a]){}");
        bench.wrong(6, head + "#while(a&-k*0){q=1;}");
        bench.wrong(6, head + "while(a){#while(k){}}");
        bench.right(head + "while(r[a]){k=1;}");
    }

    /** "7 a secret EXPR put into something public, or told by out (at the NAME, or out)" */
    private static void wrong7() {
        String head = "sec k;pub a;pub r[4];sec s[4];";
        bench.wrong(7, head + "#a=k;");
        bench.wrong(7, head + "#r[a]=k;");
        bench.wrong(7, head + "#a=a+s[0];");
        bench.wrong(7, head + "#r[0]=0&!k;");
        bench.wrong(7, head + "#out k;");
        bench.wrong(7, head + "#out 1+(s[1]);");
        bench.wrong(7, "sec in k;pub in a;#a=k;");
        bench.right(head + "k=a;s[0]=r[0];k=k;s[0]=k;a=a;out r[a];");
    }

    /** "8 WITHIN a BLOCK of an if whose EXPR is secret (at any depth)": what may not stand there, each by itself. */
    private static void wrong8() {
        String head = "sec k;pub a;pub r[4];sec s[4];";
        String[] barred = {"#while(a){}", "#while(0){}", "#out 1;", "#a=1;", "#r[0]=1;", "#s[0]=1;", "#r=1;", "#s=1;",
            "#a[0]=1;", "k=s#[0];", "k=r#[0];", "k=k#[0];", "k=a#/2;", "k=1#%2;", "if(r#[0]){}", "if(1#/1){}", "if(1#%1){}",
            "k=1+(-~r#[0]);"};
        for (String text : barred) {
            bench.wrong(8, head + "if(k){" + text + "}");
            bench.wrong(8, head + "if(k){}else{" + text + "}");
            bench.wrong(8, head + "if(s[0]){if(a){if(1){}else{" + text + "}}}");
            bench.wrong(8, head + "while(a){if(a){if(k){k=1;" + text + "}}}");
            bench.wrong(8, head + "if(k){if(k){}" + text + "}");
            bench.wrong(8, head + "if(k){if(a){}" + text + "}");
            bench.wrong(8, head + "if(k){if(a){k=1;}else{k=2;}" + text + "}");
            bench.wrong(8, head + "if(a){}else{}if(k){" + text + "}");
            bench.wrong(8, head + "if(k){}if(a){if(k){}else{" + text + "}}");
        }
    }

    /** The same may stand before and behind such an if, and in one whose EXPR is public. */
    private static void wrong8OnlyWithin() {
        String head = "sec k;pub a;pub r[4];sec s[4];";
        String all = "while(a){}out 1;a=1;r[0]=1;s[0]=1;k=s[0];k=r[0];k=a/2;k=1%2;";
        bench.right(head + all + "if(k){k=1;if(a){k=2;}else{k=3;}}else{k=-k;}" + all);
        bench.right(head + "if(a){" + all + "if(k){}" + all + "}else{" + all + "}");
        bench.right(head + "if(s[a/2%r[1]]){k=k*a;}");
    }

    /** "of NAME = EXPR: 1, 8, 3, EXPR, 7" */
    private static void orderOfPut() {
        String head = "sec k;pub a;pub r[4];sec s[4];";
        bench.wrong(1, head + "if(k){#q=1/q;}");
        bench.wrong(8, head + "if(k){#r=q;}");
        bench.wrong(8, head + "if(k){#a=q;}");
        bench.wrong(3, head + "#r=q;");
        bench.wrong(1, head + "a=k+#q;");
        bench.wrong(5, head + "a=k#/1;");
        bench.wrong(7, head + "#a=k;q=1;");
    }

    /** "of NAME [ EXPR ] = EXPR: 1, 8, 3, the first EXPR, 4, the other one, 7" */
    private static void orderOfPutIntoARow() {
        String head = "sec k;pub a;pub r[4];sec s[4];";
        bench.wrong(1, head + "if(k){#q[q]=q;}");
        bench.wrong(8, head + "if(k){#a[q]=q;}");
        bench.wrong(3, head + "if(k){#k[q]=q;}");
        bench.wrong(3, head + "#a[q]=q;");
        bench.wrong(1, head + "r[k+#q]=q;");
        bench.wrong(4, head + "r#[k]=q;");
        bench.wrong(1, head + "r[a]=k+#q;");
        bench.wrong(7, head + "#r[a]=k;q=1;");
    }

    /** "of while and out: 8, EXPR, 6 or 7 (and then the BLOCK)" */
    private static void orderOfWhileAndOut() {
        String head = "sec k;pub a;pub r[4];sec s[4];";
        bench.wrong(8, head + "if(k){#while(q){q=1;}}");
        bench.wrong(8, head + "if(k){#out q;}");
        bench.wrong(1, head + "while(k+#q){q=1;}");
        bench.wrong(6, head + "#while(k){q=1;}");
        bench.wrong(1, head + "while(a){#q=1;}");
        bench.wrong(1, head + "out k+#q;");
        bench.wrong(7, head + "#out k;q=1;");
    }

    /** "of if: EXPR, BLOCKs" */
    private static void orderOfIf() {
        String head = "sec k;pub a;pub r[4];sec s[4];";
        bench.wrong(1, head + "if(#q){p=1;}else{p=1;}");
        bench.wrong(1, head + "if(a){#p=1;}else{q=1;}");
        bench.wrong(1, head + "if(a){}else{#q=1;}p=1;");
        bench.wrong(8, head + "if(k){#out 1;}else{q=1;}");
    }

    /** "of a NAME in an EXPR: 1, 8 of its [, 3, the EXPR in [ ], 4" */
    private static void orderOfANameInAnExpr() {
        String head = "sec k;pub a;pub r[4];sec s[4];";
        bench.wrong(1, head + "if(k){k=#q[p];}");
        bench.wrong(8, head + "if(k){k=k#[q];}");
        bench.wrong(8, head + "if(k){k=r#[k];}");
        bench.wrong(3, head + "k=#k[q];");
        bench.wrong(3, head + "if(k){k=#s;}");
        bench.wrong(1, head + "k=r[k+#q];");
        bench.wrong(4, head + "k=r#[k]+q;");
    }

    /** "of / and %: both parts, 8, 5" */
    private static void orderOfDivision() {
        String head = "sec k;pub a;pub r[4];sec s[4];";
        for (String sign : new String[] {"/", "%"}) {
            bench.wrong(1, head + "if(k){k=#q" + sign + "p;}");
            bench.wrong(1, head + "if(k){k=1" + sign + "#q;}");
            bench.wrong(8, head + "if(k){k=k#" + sign + "k;}");
            bench.wrong(1, head + "k=k" + sign + "#q;");
            bench.wrong(5, head + "k=k#" + sign + "1" + sign + "q;");
            bench.wrong(5, head + "k=1" + sign + "(k#" + sign + "1);");
        }
    }

    /** "the first that is come to, from the left to the right": of two that are wrong in two places. */
    private static void wrongIsTheFirst() {
        bench.wrong(1, "pub a;pub #a;pub b[0];");
        bench.wrong(2, "pub b[#0];pub b;");
        bench.wrong(3, "pub a;sec k;#a[0]=1;a=k;");
        bench.wrong(7, "pub a;sec k;#a=k;a[0]=1;");
        bench.wrong(4, "pub r[2];sec k;k=r#[k]+k/2;");
        bench.wrong(5, "pub r[2];sec k;k=k#/2+r[k];");
    }

    /** "An EXPR is SECRET when a NAME in it is (sec)": wherever it stands, and whatever comes of it. */
    private static void secretByANameInIt() {
        String head = "sec k;pub a;pub r[4];sec s[4];";
        for (String expr : new String[] {"k", "-k", "~k", "!k", "(k)", "k*0", "0*k", "k^k", "1|k", "1&k", "1==k", "k<1",
            "1<=k", "k<<1", "1>>k", "1+k", "1-k", "a+a+a+(a*-(a-k))", "s[0]", "r[0]+s[a]"}) {
            bench.wrong(7, head + "#out " + expr + ";");
            bench.wrong(8, head + "if(" + expr + "){#out 1;}");
        }
        for (String expr : new String[] {"a", "1", "r[a]", "r[r[0]]", "a/a", "-(a+1)"}) {
            bench.right(head + "out " + expr + ";if(" + expr + "){out 1;}");
        }
    }
}
