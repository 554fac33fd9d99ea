import java.util.function.LongBinaryOperator;

/**
 * The boundary cases that the document names for promises 12 to 19, and for the sentences of the Terms
 * that they rest on: THE MACHINE, THE CACHE, CYCLES, THE TRAIL. One method for each sentence, which
 * stands above it.
 */
public final class MachineEdgesTest {
    private static final int NONE = QuietDesk.NONE;
    private static final int LEAST = Integer.MIN_VALUE;
    private static final int GREATEST = Integer.MAX_VALUE;
    private static final int JUMP_TO_ITSELF = Order.jal(0, 0);
    private static final int[] NO_PLACES = {-4, -1, 1, 2, 3, 5, 16379, 16381, 16382, 16383, 16384, 16388, 32768, 65536,
        LEAST, LEAST + 4, GREATEST, GREATEST - 3};
    private static final int[] NO_REGISTERS = {-1, 32, 33, 64, 256, LEAST, GREATEST, -32};
    private static final int[] NUMBERS = {0, 1, -1, 2, -2, 3, 7, -7, 31, 32, 33, -31, 2047, -2048, 65536, 0x12345678,
        GREATEST, GREATEST - 1, LEAST, LEAST + 1};
    private static final Bench bench = new Bench();

    public static void main(String[] args) {
        bench.every(MachineEdgesTest.class);
        bench.end("MachineEdgesTest");
    }

    private static void due(String call, long got, long want) {
        bench.due(call, got, want);
    }

    private static void due(String call, boolean got, boolean want) {
        bench.due(call, got, want);
    }

    private static long trailOf(long... events) {
        java.math.BigInteger h = java.math.BigInteger.ZERO;
        for (long e : events) {
            h = h.multiply(new java.math.BigInteger("6364136223846793005")).add(java.math.BigInteger.valueOf(e + 1));
        }
        return h.longValue();
    }

    private static void states(String when, QuietDesk x, int place, int orders, int cycles, int misses) {
        due("state(0) " + when, x.state(0), place);
        due("state(1) " + when, x.state(1), orders);
        due("state(2) " + when, x.state(2), cycles);
        due("state(3) " + when, x.state(3), misses);
    }

    // Promise 1

    /** "the machine's memory and registers are 0", and its place, cycles, misses and trail. */
    private static void newMachineIsEmpty() {
        QuietDesk x = new QuietDesk();
        for (int register = 0; register < 32; register++) {
            due("get(" + register + ")", x.get(register), 0);
        }
        states("of a new object", x, 0, 0, 0, 0);
        due("trail()", x.trail(), 0);
        for (int from = 0; from < 16384; from += 1600) {
            x = new QuietDesk();
            for (int place = from; place < from + 1600 && place < 16384; place += 4) {
                due("peek(" + place + ")", x.peek(place), 0);
            }
        }
        due("go(1) at the word 0", x.go(1), 2);
    }

    // Promises 12 and 13

    /** "False when place is not 0 .. 16380, or no multiple of 4." */
    private static void pokeWhereThereIsNoWord() {
        QuietDesk x = new QuietDesk();
        for (int place : NO_PLACES) {
            due("poke(" + place + ")", x.poke(place, -1), false);
        }
        for (int place : new int[] {0, 4, 8, 16372, 16376, 16380}) {
            due("peek(" + place + ") after refused pokes", x.peek(place), 0);
        }
        for (int place : new int[] {0, 4, 8192, 16376, 16380}) {
            due("poke(" + place + ")", x.poke(place, place + 1), true);
        }
        for (int place : new int[] {0, 4, 8192, 16376, 16380}) {
            due("peek(" + place + ")", x.peek(place), place + 1);
        }
    }

    /** "0 when there is none such" */
    private static void peekWhereThereIsNoWord() {
        QuietDesk x = new QuietDesk();
        for (int place : new int[] {0, 4, 16376, 16380}) {
            x.poke(place, -1);
        }
        for (int place : NO_PLACES) {
            due("peek(" + place + ")", x.peek(place), 0);
        }
    }

    /** "A word of the machine's memory becomes v.": any v, that word alone. */
    private static void pokeOfAnyNumber() {
        QuietDesk x = new QuietDesk();
        for (int v : NUMBERS) {
            due("poke(8, " + v + ")", x.poke(8, v), true);
            due("peek(8)", x.peek(8), v);
            due("peek(4)", x.peek(4), 0);
            due("peek(12)", x.peek(12), 0);
        }
    }

    /** Every word is one of its own. */
    private static void wordsAreEachTheirOwn() {
        for (int from = 0; from < 16384; from += 800) {
            QuietDesk x = new QuietDesk();
            for (int place = from; place < from + 800 && place < 16384; place += 4) {
                due("poke(" + place + ")", x.poke(place, place ^ 0x5A5A5A5A), true);
            }
            for (int place = from; place < from + 800 && place < 16384; place += 4) {
                due("peek(" + place + ")", x.peek(place), place ^ 0x5A5A5A5A);
            }
        }
    }

    /** "(Programs run on a machine of their own.)": neither sees the other. */
    private static void programsHaveTheirOwnMachine() {
        QuietDesk x = Bench.loaded("pub in a;sec r[64];pub b;r[63]=5;b=a*3;out b/0;");
        for (int place = 0; place < 240; place += 4) {
            x.poke(place, ~place);
        }
        for (int r = 1; r < 32; r++) {
            x.set(r, -r);
        }
        x.start(512);
        x.poke(512, Order.addi(0, 0, 0));
        x.go(1);
        long trail = x.trail();
        x.input(0, 4);
        due("run(9)", x.run(9), 0);
        due("word(65)", x.word(65), 12);
        due("word(0)", x.word(0), 4);
        for (int place = 0; place < 240; place += 4) {
            due("peek(" + place + ") after a run", x.peek(place), ~place);
        }
        for (int r = 1; r < 32; r++) {
            due("get(" + r + ") after a run", x.get(r), -r);
        }
        states("after a run", x, 516, 1, 21, 1);
        due("trail() after a run", x.trail(), trail);
        x.poke(516, Order.sw(1, 0, 0));
        x.set(1, 99);
        due("go(1)", x.go(1), 0);
        due("word(0) after go", x.word(0), 4);
        due("out(0) after go", x.out(0), -1);
    }

    // Promises 14 and 15

    /** "(x0 stays 0)" */
    private static void x0Stays() {
        QuietDesk x = new QuietDesk();
        for (int v : NUMBERS) {
            due("set(0, " + v + ")", x.set(0, v), true);
            due("get(0)", x.get(0), 0);
        }
        int[] orders = {Order.addi(0, 0, 5), Order.lui(0, 7), Order.auipc(0, 7), Order.jal(0, 4), Order.jalr(0, 1, 20),
            Order.lw(0, 0, 0), Order.add(0, 1, 1), Order.mul(0, 1, 1), Order.div(0, 1, 1), Order.srli(0, 1, 1)};
        x = Order.machine(0, orders);
        x.set(1, 0);
        for (int i = 0; i < orders.length; i++) {
            due("go(1)", x.go(1), 0);
            due("get(0) after order " + i, x.get(0), 0);
            due("state(0)", x.state(0), 4 * i + 4);
        }
        due("x0 reads as 0", x.peek(0), orders[0]);
    }

    /** "False when there is none such." */
    private static void setOfNoRegister() {
        QuietDesk x = new QuietDesk();
        for (int register : NO_REGISTERS) {
            due("set(" + register + ")", x.set(register, 5), false);
        }
        for (int register = 0; register < 32; register++) {
            due("get(" + register + ") after refused sets", x.get(register), 0);
        }
        due("set(1)", x.set(1, 5), true);
        due("set(31)", x.set(31, 6), true);
        due("get(1)", x.get(1), 5);
        due("get(31)", x.get(31), 6);
    }

    /** "0 when there is none such." */
    private static void getOfNoRegister() {
        QuietDesk x = new QuietDesk();
        for (int register = 0; register < 32; register++) {
            due("set(" + register + ")", x.set(register, -1 - register), true);
        }
        for (int register : NO_REGISTERS) {
            due("get(" + register + ")", x.get(register), 0);
        }
        for (int register = 1; register < 32; register++) {
            due("get(" + register + ")", x.get(register), -1 - register);
        }
    }

    // Promise 16

    /** "False when it is not 0 .. 16380, or no multiple of 4.": everything stays, the cache too. */
    private static void startWhereThereIsNoWord() {
        QuietDesk x = Order.machine(64, Order.addi(1, 1, 1), Order.lw(2, 0, 256), Order.addi(1, 1, 1), Order.lw(2, 0, 256));
        due("go(2)", x.go(2), 0);
        long trail = x.trail();
        for (int place : NO_PLACES) {
            due("start(" + place + ")", x.start(place), false);
            states("after start(" + place + ")", x, 72, 2, 42, 2);
            due("trail()", x.trail(), trail);
        }
        due("go(2)", x.go(2), 0);
        states("with the cache as it was", x, 80, 4, 44, 2);
    }

    /** "The machine's place, cycles, misses, trail and cache begin anew: at a place." */
    private static void startBeginsAnew() {
        QuietDesk x = Order.machine(64, Order.addi(1, 1, 1), Order.lw(2, 0, 256), Order.jal(0, -8));
        due("go(30)", x.go(30), 0);
        states("after go(30)", x, 64, 30, 30 + 10 + 40, 2);
        due("start(64)", x.start(64), true);
        states("after start", x, 64, 0, 0, 0);
        due("trail()", x.trail(), 0);
        due("go(2)", x.go(2), 0);
        states("with an empty cache", x, 72, 2, 42, 2);
        due("trail()", x.trail(), trailOf(64, 68, 256));
        due("get(1) went on", x.get(1), 11);
        due("the memory stayed", x.peek(64), Order.addi(1, 1, 1));
        for (int place : new int[] {0, 4, 16376, 16380}) {
            due("start(" + place + ")", x.start(place), true);
            states("after start(" + place + ")", x, place, 0, 0, 0);
        }
    }

    /** Both lines of all sixteen sets are empty after start. */
    private static void startEmptiesTheWholeCache() {
        for (int set = 0; set < 16; set++) {
            QuietDesk x = Order.machine(8192, Order.lw(3, 1, 0), Order.lw(3, 2, 0), Order.ECALL);
            x.set(1, 1024 + 16 * set);
            x.set(2, 2048 + 16 * set);
            due("go(9)", x.go(9), 1);
            int misses = x.state(3);
            due("start", x.start(8192), true);
            due("go(9)", x.go(9), 1);
            due("misses of set " + set + " after start", x.state(3), misses);
        }
    }

    // Promise 17

    /** "NONE when n is not 0 .. 2000.": nothing is done then. */
    private static void goOfTooFewOrTooMany() {
        QuietDesk x = Order.machine(0, JUMP_TO_ITSELF);
        for (int n : new int[] {-1, -2, 2001, 2002, 4000, LEAST, GREATEST}) {
            due("go(" + n + ")", x.go(n), NONE);
            states("after go(" + n + ")", x, 0, 0, 0, 0);
            due("trail()", x.trail(), 0);
        }
        due("go(0)", x.go(0), 0);
        states("after go(0)", x, 0, 0, 0, 0);
        due("go(2000)", x.go(2000), 0);
        states("after go(2000)", x, 0, 2000, 4020, 1);
        due("go(1999)", x.go(1999), 0);
        states("after go(1999)", x, 0, 3999, 8018, 1);
    }

    /** "0 when all n were done, else why it stopped.": the stop just behind them, and just before the last. */
    private static void goUpToAStop() {
        for (int why = 1; why <= 3; why++) {
            int stop = why == 1 ? Order.ECALL : why == 2 ? 0 : Order.lw(1, 0, 1);
            int[] orders = {Order.addi(1, 1, 1), Order.addi(1, 1, 1), Order.addi(1, 1, 1), stop};
            for (int n = 0; n <= 5; n++) {
                QuietDesk x = Order.machine(32, orders);
                due("go(" + n + ")", x.go(n), n <= 3 ? 0 : why);
                due("state(1)", x.state(1), Math.min(n, 3));
                due("state(0)", x.state(0), 32 + 4 * Math.min(n, 3));
                due("get(1)", x.get(1), Math.min(n, 3));
            }
        }
    }

    /** "An object is used for at most 512 calls": the most orders in each, none of the counts runs over. */
    private static void goUpToThe512thCall() {
        QuietDesk x = Order.machine(0, Order.div(3, 1, 2), Order.jal(0, -4));
        x.set(1, LEAST);
        x.set(2, -1);
        long want = 0;
        for (int i = 1; i <= 500; i++) {
            due("go(2000)", x.go(2000), 0);
            for (int k = 0; k < 1000; k++) {
                for (int event : new int[] {0, LEAST, -1, 4}) {
                    want = want * 6364136223846793005L + event + 1;
                }
            }
        }
        states("after 500 calls", x, 0, 1_000_000, 500_000 * 35 + 20, 1);
        due("trail()", x.trail(), want);
    }

    /** At a stop go(0) does all of none, go(n) stops again; with another word there it goes on. */
    private static void goAtAStop() {
        QuietDesk x = Order.machine(0, Order.ECALL, Order.addi(1, 0, 3));
        for (int i = 0; i < 3; i++) {
            due("go(5)", x.go(5), 1);
            due("go(0)", x.go(0), 0);
            states("at a stop", x, 0, 0, 0, 0);
        }
        x.poke(0, -1);
        due("go(1)", x.go(1), 2);
        x.poke(0, Order.addi(2, 0, 4));
        due("go(2)", x.go(2), 0);
        due("get(1)", x.get(1), 3);
        due("go(1)", x.go(1), 2);
        states("behind them", x, 8, 2, 22, 1);
    }

    // Promise 18

    /** "NONE for others." */
    private static void stateOfOthers() {
        QuietDesk x = Order.machine(0, JUMP_TO_ITSELF);
        x.go(9);
        for (int what : new int[] {-1, 4, 5, 256, LEAST, GREATEST}) {
            due("state(" + what + ")", x.state(what), NONE);
        }
    }

    /** "since start() (or from the beginning)" */
    private static void stateFromTheBeginning() {
        QuietDesk x = new QuietDesk();
        x.poke(0, Order.addi(1, 0, 1));
        x.poke(4, Order.ECALL);
        due("go(9) without start", x.go(9), 1);
        states("from the beginning", x, 4, 1, 21, 1);
        due("trail()", x.trail(), 1);
        x.start(4);
        due("go(9)", x.go(9), 1);
        states("since start()", x, 4, 0, 0, 0);
    }

    // THE MACHINE

    /** "It STOPS .. 1 at ECALL (the word 115)": at no other word of its kind. */
    private static void stopAtEcallAlone() {
        due("go(1) at 115", Order.machine(0, 115).go(1), 1);
        for (int bit = 7; bit < 32; bit++) {
            due("go(1) at 115 and the bit " + bit, Order.machine(0, 115 | 1 << bit).go(1), 2);
        }
        due("go(1) at 114", Order.machine(0, 114).go(1), 2);
        due("go(1) at 113", Order.machine(0, 113).go(1), 2);
    }

    /** "2 at another word": all kinds of the last seven bits, and what is in the middle and above. */
    private static void stopAtAnotherWord() {
        for (int low = 0; low < 128; low++) {
            boolean known = low == 0x37 || low == 0x17 || low == 0x6F || low == 0x67 || low == 0x63 || low == 0x13
                || low == 0x33;
            // Loads and stores have 2 in the middle, and are asked below.
            stops(low, known ? 0 : low == 115 ? 1 : 2);
        }
        for (int kind = 0; kind < 8; kind++) {
            stops(kind << 12 | 0x67, kind == 0 ? 0 : 2);
            stops(kind << 12 | 0x63, kind == 2 || kind == 3 ? 2 : 0);
            stops(kind << 12 | 0x03, kind == 2 ? 0 : 2);
            stops(kind << 12 | 0x23, kind == 2 ? 0 : 2);
            for (int upper = 0; upper < 128; upper++) {
                boolean number = kind != 1 && kind != 5 || upper == 0 || upper == 32 && kind == 5;
                boolean plain = upper < 2 || upper == 32 && (kind == 0 || kind == 5);
                stops(upper << 25 | kind << 12 | 0x13, number ? 0 : 2);
                stops(upper << 25 | kind << 12 | 0x33, plain ? 0 : 2);
            }
        }
        stops(0, 2);
        stops(-1, 2);
        // Loads and stores of bytes and halves are other words, wherever they would reach.
        for (int kind : new int[] {0, 1, 3, 4, 5, 6, 7}) {
            for (int number : new int[] {0, 1, 2, -4, 2047}) {
                stops(Order.lw(2, 0, number) & ~(7 << 12) | kind << 12, 2);
                stops(Order.sw(2, 0, number) & ~(7 << 12) | kind << 12, 2);
            }
        }
    }

    private static void stops(int order, int why) {
        QuietDesk x = Order.machine(16, order);
        due("go(1) at " + Integer.toHexString(order), x.go(1), why);
        if (why != 0) {
            states("at " + Integer.toHexString(order), x, 16, 0, 0, 0);
            due("trail() at " + Integer.toHexString(order), x.trail(), 0);
        }
    }

    /**
     * "3 where the order's own place .. is no multiple of 4 or beyond the memory. (A jump is done; the
     * stop is at its goal. ..)"
     */
    private static void stopAtTheGoalOfAJump() {
        for (int goal : NO_PLACES) {
            int even = goal & -2;
            QuietDesk x = Order.machine(32, Order.jalr(2, 1, 0));
            x.set(1, goal);
            boolean isPlace = even >= 0 && even < 16384 && even % 4 == 0;
            due("go(1) to " + goal, x.go(1), 0);
            states("at " + goal, x, even, 1, 22, 1);
            due("get(2)", x.get(2), 36);
            due("trail()", x.trail(), trailOf(32));
            due("go(1) at " + goal, x.go(1), isPlace ? 2 : 3);
            states("still at " + goal, x, even, 1, 22, 1);
            due("trail()", x.trail(), trailOf(32));
        }
        for (int distance : new int[] {2, -2, 6, -64, -36, 1 << 19, -(1 << 20), 16384 - 32}) {
            QuietDesk x = Order.machine(32, Order.jal(1, distance));
            due("go(1) by " + distance, x.go(1), 0);
            due("state(0)", x.state(0), 32 + distance);
            due("go(1)", x.go(1), 3);
            due("get(1)", x.get(1), 36);
        }
        for (int distance : new int[] {2, -2, 6, -4096, -64, 4094}) {
            QuietDesk x = Order.machine(32, Order.beq(0, 0, distance));
            due("go(1) by " + distance, x.go(1), 0);
            states("after a branch", x, 32 + distance, 1, 22, 1);
            due("go(1)", x.go(1), 3);
        }
    }

    /** The last word of memory is one; behind it the machine stops. */
    private static void stopBehindTheMemory() {
        QuietDesk x = Order.machine(16380, Order.addi(1, 1, 1));
        due("go(2)", x.go(2), 3);
        states("behind the memory", x, 16384, 1, 21, 1);
        due("get(1)", x.get(1), 1);
        due("go(1)", x.go(1), 3);
        x = Order.machine(16380, Order.bne(0, 0, 8));
        due("go(2)", x.go(2), 3);
        states("behind the memory", x, 16384, 1, 21, 1);
    }

    /** "or that of a load or store, is no multiple of 4 or beyond the memory" */
    private static void stopAtALoadOrStore() {
        int[] bases = {0, 1, 2, 3, 4, 16376, 16380, 16383, 16384, -4, -1, 2048, 2044, LEAST, GREATEST, -2047, 18432, 18428};
        int[] distances = {0, 1, 2, 3, 4, -1, -2, -4, 2047, 2044, -2048, -2047};
        for (int base : bases) {
            for (int distance : distances) {
                int where = base + distance;
                boolean isPlace = where >= 0 && where < 16384 && where % 4 == 0;
                access(Order.lw(2, 1, distance), base, where, isPlace);
                access(Order.sw(3, 1, distance), base, where, isPlace);
            }
        }
    }

    private static void access(int order, int base, int where, boolean isPlace) {
        QuietDesk x = Order.machine(1024, order);
        String what = Integer.toHexString(order) + " with " + base;
        x.set(1, base);
        x.set(2, 22);
        x.set(3, 33);
        boolean stores = (order & 127) == 0x23;
        int word = x.peek(where);
        due("go(1) at " + what, x.go(1), isPlace ? 0 : 3);
        due("state(1) at " + what, x.state(1), isPlace ? 1 : 0);
        due("state(0) at " + what, x.state(0), isPlace ? 1028 : 1024);
        due("trail() at " + what, x.trail(), isPlace ? trailOf(1024, where) : 0);
        due("x2 after " + what, x.get(2), isPlace && !stores ? word : 22);
        due("the word after " + what, x.peek(where), isPlace && stores ? 33 : word);
        if (!isPlace) {
            due("state(2) at " + what, x.state(2), 0);
            due("state(3) at " + what, x.state(3), 0);
        }
    }

    /** "Of an order at which it stops nothing is done, no access, cycle or event either." */
    private static void nothingIsDoneAtAStop() {
        // The stop is in a line of its own, which is not in the cache before it is really done.
        QuietDesk x = Order.machine(28, Order.addi(1, 0, 6), Order.lw(2, 1, 0), Order.ECALL);
        due("go(9)", x.go(9), 3);
        states("at the load", x, 32, 1, 21, 1);
        due("go(9)", x.go(9), 3);
        states("at the load again", x, 32, 1, 21, 1);
        due("trail()", x.trail(), trailOf(28));
        x.set(1, 256);
        due("go(1)", x.go(1), 0);
        states("with a place that is one", x, 36, 2, 62, 3);
        due("trail()", x.trail(), trailOf(28, 32, 256));
        due("go(9)", x.go(9), 1);
        states("at ECALL", x, 36, 2, 62, 3);
        // A stop does not make its line the one used last either.
        x = Order.machine(0, Order.lw(2, 0, 256), Order.jal(0, 508), 0, 0);
        x.poke(512, Order.ECALL);
        due("go(9)", x.go(9), 1);
        states("in the third line of a set", x, 512, 2, 2 + 1 + 40, 2);
        x.poke(512, Order.lw(3, 0, 256));
        due("go(1)", x.go(1), 0);
        due("256 was used longer ago than the orders at 0", x.state(3), 4);
    }

    /** "the lowest byte of a word first": there are words alone, so it can't be seen but in what they hold. */
    private static void wordsGoInAndOutWhole() {
        for (int v : NUMBERS) {
            QuietDesk x = Order.machine(0, Order.sw(1, 0, 512), Order.lw(2, 0, 512));
            x.set(1, v);
            due("go(2)", x.go(2), 0);
            due("peek(512)", x.peek(512), v);
            due("get(2)", x.get(2), v);
        }
    }

    /** Orders that an order wrote are done as they are then. */
    private static void ordersThatWereWritten() {
        QuietDesk x = Order.machine(0, Order.sw(1, 0, 4), 0, Order.ECALL);
        x.set(1, Order.addi(2, 0, 77));
        due("go(9)", x.go(9), 1);
        due("get(2)", x.get(2), 77);
    }

    /** "LUI AUIPC": the upper twenty bits, running over. */
    private static void upperBits() {
        for (int upper : new int[] {0, 1, 0x7FFFF, 0x80000, 0xFFFFF}) {
            QuietDesk x = Order.machine(16376, Order.lui(1, upper), Order.auipc(2, upper));
            due("go(2)", x.go(2), 0);
            due("LUI " + upper, x.get(1), upper << 12);
            due("AUIPC " + upper, x.get(2), (upper << 12) + 16380);
        }
    }

    /** "JAL JALR": as far as they reach, backwards and forwards; JALR leaves out the last bit, and runs over. */
    private static void jumps() {
        for (int distance : new int[] {4, -4, 8188, -8192, 2044, 2048, -2048, 4096}) {
            QuietDesk x = Order.machine(8192, Order.jal(5, distance));
            due("go(1)", x.go(1), 0);
            due("state(0) by " + distance, x.state(0), 8192 + distance);
            due("get(5)", x.get(5), 8196);
        }
        int[][] cases = {{0, 2047, 2046}, {4096, -2048, 2048}, {1, 0, 0}, {9, 3, 12}, {9, 2, 10}, {-1, 1, 0}, {-4, 8, 4},
            {LEAST, -2, GREATEST - 1}, {GREATEST, 1, LEAST}};
        for (int[] c : cases) {
            QuietDesk x = Order.machine(64, Order.jalr(1, 1, c[1]));
            x.set(1, c[0]);
            due("go(1)", x.go(1), 0);
            due("JALR " + c[0] + " + " + c[1], x.state(0), c[2]);
            due("get(1)", x.get(1), 68);
        }
    }

    /** Every bit of a distance or number counts, the highest one as its sign. */
    private static void bitsOfDistances() {
        for (int bit = 1; bit <= 20; bit++) {
            int distance = bit == 20 ? -(1 << 20) : 1 << bit;
            QuietDesk x = Order.machine(8192, Order.jal(0, distance));
            due("go(1)", x.go(1), 0);
            due("JAL by the bit " + bit, x.state(0), 8192 + distance);
        }
        for (int bit = 1; bit <= 12; bit++) {
            int distance = bit == 12 ? -4096 : 1 << bit;
            QuietDesk x = Order.machine(8192, Order.bge(0, 0, distance));
            due("go(1)", x.go(1), 0);
            due("BGE by the bit " + bit, x.state(0), 8192 + distance);
        }
        for (int bit = 0; bit <= 11; bit++) {
            int number = bit == 11 ? -2048 : 1 << bit;
            QuietDesk x = Order.machine(8192, Order.addi(1, 0, number), Order.lw(2, 3, number), Order.sw(4, 5, number));
            x.set(3, 4096 - number);
            x.set(4, 77);
            x.set(5, 4100 - number);
            x.poke(4096, 66);
            due("go(3)", x.go(3), 0);
            due("ADDI of the bit " + bit, x.get(1), number);
            due("LW by the bit " + bit, x.get(2), 66);
            due("SW by the bit " + bit, x.peek(4100), 77);
        }
    }

    /** "32 registers": each one as the one that is written, and as the left and the right part. */
    private static void eachRegister() {
        for (int r = 1; r < 32; r++) {
            int other = r == 31 ? 1 : r + 1;
            QuietDesk x = Order.machine(0, Order.plain(32, 0, r, r, other), Order.sw(r, other, 0), Order.lw(other, 0, 512),
                Order.bne(other, r, 8));
            x.set(r, 700);
            x.set(other, 512);
            due("go(4)", x.go(4), 0);
            due("get(" + r + ")", x.get(r), 188);
            due("get(" + other + ")", x.get(other), 188);
            due("peek(512)", x.peek(512), 188);
            due("state(0)", x.state(0), 16);
            for (int rest = 1; rest < 32; rest++) {
                if (rest != r && rest != other) {
                    due("get(" + rest + ")", x.get(rest), 0);
                }
            }
        }
    }

    /** "BEQ BNE BLT BGE BLTU BGEU": of equal ones, and where signs count or don't. */
    private static void branches() {
        for (int a : NUMBERS) {
            for (int b : NUMBERS) {
                branch("BEQ", Order.beq(1, 2, 32), a, b, a == b);
                branch("BNE", Order.bne(1, 2, 32), a, b, a != b);
                branch("BLT", Order.blt(1, 2, 32), a, b, a < b);
                branch("BGE", Order.bge(1, 2, 32), a, b, a >= b);
                branch("BLTU", Order.bltu(1, 2, 32), a, b, Integer.compareUnsigned(a, b) < 0);
                branch("BGEU", Order.bgeu(1, 2, 32), a, b, Integer.compareUnsigned(a, b) >= 0);
            }
        }
    }

    private static void branch(String name, int order, int a, int b, boolean taken) {
        QuietDesk x = Order.machine(64, order);
        x.set(1, a);
        x.set(2, b);
        due(name, x.go(1), 0);
        due(name + " " + a + ", " + b + " goes to", x.state(0), taken ? 96 : 68);
        due(name + " " + a + ", " + b + " costs", x.state(2), taken ? 22 : 21);
        due("the trail is of the place alone", x.trail(), 65);
    }

    /** The twelve bits of a number have a sign, for SLTIU and the bitwise ones too. */
    private static void ordersWithANumber() {
        for (int a : NUMBERS) {
            for (int number : new int[] {0, 1, -1, 2047, -2048, 31}) {
                result("ADDI", Order.addi(3, 1, number), a, 0, a + number);
                result("SLTI", Order.slti(3, 1, number), a, 0, a < number ? 1 : 0);
                result("SLTIU", Order.sltiu(3, 1, number), a, 0, Integer.compareUnsigned(a, number) < 0 ? 1 : 0);
                result("XORI", Order.xori(3, 1, number), a, 0, a ^ number);
                result("ORI", Order.ori(3, 1, number), a, 0, a | number);
                result("ANDI", Order.andi(3, 1, number), a, 0, a & number);
            }
            for (int number = 0; number < 32; number++) {
                result("SLLI", Order.slli(3, 1, number), a, 0, (int) ((a & 0xFFFFFFFFL) << number));
                result("SRLI", Order.srli(3, 1, number), a, 0, (int) ((a & 0xFFFFFFFFL) >> number));
                result("SRAI", Order.srai(3, 1, number), a, 0, (int) ((long) a >> number));
            }
        }
    }

    private static void result(String name, int order, int a, int b, long want) {
        QuietDesk x = Order.machine(64, order);
        x.set(1, a);
        x.set(2, b);
        due(name, x.go(1), 0);
        due(name + " " + a + ", " + b, x.get(3), (int) want);
    }

    private static void pairs(String name, int upper, int kind, LongBinaryOperator meaning) {
        for (int a : NUMBERS) {
            for (int b : NUMBERS) {
                result(name, Order.plain(upper, kind, 3, 1, 2), a, b, meaning.applyAsLong(a, b));
            }
        }
    }

    /** Sums run over, shifts are by five bits, comparisons with and without signs. */
    private static void ordersWithRegisters() {
        pairs("ADD", 0, 0, (a, b) -> a + b);
        pairs("SUB", 32, 0, (a, b) -> a - b);
        pairs("SLL", 0, 1, (a, b) -> a << (b & 31));
        pairs("SLT", 0, 2, (a, b) -> a < b ? 1 : 0);
        pairs("SLTU", 0, 3, (a, b) -> (a & 0xFFFFFFFFL) < (b & 0xFFFFFFFFL) ? 1 : 0);
        pairs("XOR", 0, 4, (a, b) -> a ^ b);
        pairs("SRL", 0, 5, (a, b) -> (a & 0xFFFFFFFFL) >> (b & 31));
        pairs("SRA", 32, 5, (a, b) -> a >> (b & 31));
        pairs("OR", 0, 6, (a, b) -> a | b);
        pairs("AND", 0, 7, (a, b) -> a & b);
    }

    private static long high(long a, long b) {
        return java.math.BigInteger.valueOf(a).multiply(java.math.BigInteger.valueOf(b)).shiftRight(32).longValue();
    }

    /** "MUL MULH MULHSU MULHU": the lower and the upper half of what runs over. */
    private static void products() {
        pairs("MUL", 1, 0, (a, b) -> a * b);
        pairs("MULH", 1, 1, (a, b) -> high(a, b));
        pairs("MULHSU", 1, 2, (a, b) -> high(a, b & 0xFFFFFFFFL));
        pairs("MULHU", 1, 3, (a, b) -> high(a & 0xFFFFFFFFL, b & 0xFFFFFFFFL));
    }

    /** "DIV DIVU REM REMU": by 0, and the least by -1, as published. */
    private static void divisions() {
        pairs("DIV", 1, 4, (a, b) -> b == 0 ? -1 : a / b);
        pairs("DIVU", 1, 5, (a, b) -> b == 0 ? -1 : (a & 0xFFFFFFFFL) / (b & 0xFFFFFFFFL));
        pairs("REM", 1, 6, (a, b) -> b == 0 ? a : a % b);
        pairs("REMU", 1, 7, (a, b) -> b == 0 ? a : (a & 0xFFFFFFFFL) % (b & 0xFFFFFFFFL));
        result("DIV", Order.div(3, 1, 2), LEAST, -1, LEAST);
        result("REM", Order.rem(3, 1, 2), LEAST, -1, 0);
        result("DIV", Order.div(3, 1, 2), LEAST, 0, -1);
        result("REM", Order.rem(3, 1, 2), LEAST, 0, LEAST);
        result("DIVU", Order.divu(3, 1, 2), 5, 0, -1);
        result("REMU", Order.remu(3, 1, 2), -5, 0, -5);
    }

    // THE CACHE

    /** Loads from these places one after another, by orders that use as few lines as can be. */
    private static int missesOf(int... places) {
        QuietDesk x = Order.machine(0, Order.lw(2, 1, 0));
        x.set(1, 4096 + 128);
        due("go(1)", x.go(1), 0);
        for (int place : places) {
            // The order stays at 0, in set 0, so only loads go through the other sets.
            x.poke(4, Order.lw(2, 1, 0));
            x.poke(8, Order.jal(0, -4));
            x.set(1, place);
            due("go(2)", x.go(2), 0);
        }
        return x.state(3) - 2;
    }

    /** "lines of 16 bytes": the first and the last word of a line, and the next ones. */
    private static void linesOf16Bytes() {
        due("one line", missesOf(64, 68, 72, 76, 64), 1);
        due("the line behind it", missesOf(76, 80), 2);
        due("the line before it", missesOf(64, 60), 2);
    }

    /** "16 sets of two lines": two lines of each set stay, a third one does not. */
    private static void setsOfTwoLines() {
        for (int set = 1; set < 16; set++) {
            int a = 16 * set;
            due("one line of set " + set, missesOf(a, a, a), 1);
            // 4096 + 128 went into set 8 before.
            due("two lines of set " + set, missesOf(a, a + 256, a, a + 256, a, a + 256), 2);
            due("three lines of set " + set, missesOf(a, a + 256, a + 512, a, a + 256, a + 512), 6);
            due("far lines of set " + set, missesOf(a, a + 15872, a + 8192, a + 15872), 3);
        }
        int[] all = new int[30];
        for (int i = 0; i < 15; i++) {
            all[i] = 16 * i + 16;
            all[i + 15] = 16 * i + 16 + 1024;
        }
        int[] twice = java.util.Arrays.copyOf(all, 60);
        System.arraycopy(all, 0, twice, 30, 30);
        due("thirty lines, twice", missesOf(twice), 30);
    }

    /** "the line comes in place of that of the set that was used longest ago" */
    private static void theLineUsedLongestAgoGoes() {
        int a = 48;
        int b = a + 256;
        int c = a + 512;
        due("a b a c: b goes, a stays", missesOf(a, b, a, c, a), 3);
        due("a b a c: b went", missesOf(a, b, a, c, b), 4);
        due("a b c: a went", missesOf(a, b, c, a), 4);
        due("a b c: b stays", missesOf(a, b, c, b), 3);
        due("a b c b a: c goes, b stays", missesOf(a, b, c, b, a, b), 4);
        due("a b c b a: c went", missesOf(a, b, c, b, a, c), 5);
    }

    /** "(one that is empty first)": the second line of a set comes beside the first, not in its place. */
    private static void anEmptyLineIsTakenFirst() {
        due("a b a", missesOf(48, 304, 48), 2);
        due("a a b a", missesOf(48, 48, 304, 48), 2);
        // The line with the number 0 is not there at first either.
        QuietDesk x = Order.machine(16, Order.lw(1, 0, 0), Order.lw(1, 0, 0));
        due("go(1)", x.go(1), 0);
        due("misses at the place 0", x.state(3), 2);
        due("go(1)", x.go(1), 0);
        due("misses at the place 0 again", x.state(3), 2);
    }

    /** "Each order is an access to its place, then a load or store one to its." */
    private static void anOrderComesBeforeItsLoad() {
        // Three lines of set 0: the order's at 512, and two loads.
        QuietDesk x = Order.machine(512, Order.lw(1, 0, 0), Order.lw(1, 0, 256), Order.lw(1, 0, 256), Order.lw(1, 0, 0));
        int[] misses = {2, 3, 3, 4};
        for (int i = 0; i < 4; i++) {
            due("go(1)", x.go(1), 0);
            due("misses after load " + i, x.state(3), misses[i]);
        }
        x = Order.machine(512, Order.sw(0, 0, 0), Order.sw(0, 0, 256), Order.sw(0, 0, 256), Order.sw(0, 0, 0));
        for (int i = 0; i < 4; i++) {
            due("go(1)", x.go(1), 0);
            due("misses after store " + i, x.state(3), misses[i]);
        }
        // If a load came before its order, the order's own line would go here, and come in again.
        x = Order.machine(524, Order.lw(1, 2, 0), Order.jal(0, -4));
        x.set(2, 0);
        due("go(1)", x.go(1), 0);
        x.poke(528, Order.lw(1, 3, 0));
        x.set(3, 256 + 16);
        due("go(1)", x.go(1), 0);
        due("misses", x.state(3), 4);
    }

    /** poke, peek, set and get are no accesses. */
    private static void callsAreNoAccesses() {
        QuietDesk x = Order.machine(0, Order.lw(1, 0, 256), Order.lw(1, 0, 256));
        x.go(1);
        x.poke(512, 1);
        x.peek(768);
        x.poke(256, 7);
        due("go(1)", x.go(1), 0);
        states("after calls between", x, 8, 2, 42, 2);
        due("get(1)", x.get(1), 7);
        due("trail()", x.trail(), trailOf(0, 256, 4, 256));
    }

    // CYCLES

    private static int cyclesOf(int order) {
        QuietDesk x = Order.machine(16, Order.addi(0, 0, 0), order);
        x.set(1, 16);
        due("go(1)", x.go(1), 0);
        int before = x.state(2);
        due("the first order, with a miss", before, 21);
        due("go(1)", x.go(1), 0);
        return x.state(2) - before;
    }

    /** "1 for each order that is done; 3 more for MUL ..; 32 more for DIV ..; 1 more for a jump, or a branch that is taken" */
    private static void cyclesOfEachKind() {
        for (int kind = 0; kind < 8; kind++) {
            due("an order with a number " + kind, cyclesOf(kind << 12 | 0x13), 1);
            due("an order with registers " + kind, cyclesOf(Order.plain(0, kind, 3, 1, 2)), 1);
            due("a product or division " + kind, cyclesOf(Order.plain(1, kind, 3, 1, 2)), kind < 4 ? 4 : 33);
            due("one into x0 " + kind, cyclesOf(Order.plain(1, kind, 0, 1, 2)), kind < 4 ? 4 : 33);
            due("one by itself " + kind, cyclesOf(Order.plain(1, kind, 1, 1, 1)), kind < 4 ? 4 : 33);
        }
        due("SUB", cyclesOf(Order.plain(32, 0, 3, 1, 2)), 1);
        due("SRA", cyclesOf(Order.plain(32, 5, 3, 1, 2)), 1);
        due("LUI", cyclesOf(Order.lui(3, 5)), 1);
        due("AUIPC", cyclesOf(Order.auipc(3, 5)), 1);
        due("JAL", cyclesOf(Order.jal(0, 64)), 2);
        due("JAL to the next order", cyclesOf(Order.jal(0, 4)), 2);
        due("JALR", cyclesOf(Order.jalr(3, 1, 0)), 2);
        due("a branch that is taken", cyclesOf(Order.beq(0, 0, 64)), 2);
        due("one that is taken to the next order", cyclesOf(Order.beq(0, 0, 4)), 2);
        due("one that is not taken", cyclesOf(Order.bne(0, 0, 64)), 1);
        due("a load of the line that is there", cyclesOf(Order.lw(3, 1, 0)), 1);
        due("a store there", cyclesOf(Order.sw(3, 1, 12)), 1);
    }

    /** "20 more for a miss": of an order, of a load, and of both. */
    private static void cyclesOfMisses() {
        due("a load that misses", cyclesOf(Order.lw(3, 1, 16)), 21);
        due("a store that misses", cyclesOf(Order.sw(3, 1, 16)), 21);
        QuietDesk x = Order.machine(12, Order.lw(3, 0, 512), Order.lw(3, 0, 256 + 64));
        due("go(1)", x.go(1), 0);
        states("two misses", x, 16, 1, 41, 2);
        due("go(1)", x.go(1), 0);
        states("four misses", x, 20, 2, 82, 4);
        x = Order.machine(12, Order.div(3, 1, 2), Order.mul(3, 1, 2), Order.jal(0, 64));
        due("go(3)", x.go(3), 0);
        states("of dear orders with misses", x, 84, 3, 33 + 20 + 4 + 20 + 2, 2);
    }

    // THE TRAIL, promise 19

    /** "h, 0 at first" and "e + 1": the event 0 can be seen. */
    private static void trailFromZero() {
        QuietDesk x = Order.machine(0, JUMP_TO_ITSELF);
        due("trail()", x.trail(), 0);
        long want = 0;
        for (int i = 0; i < 40; i++) {
            due("go(1)", x.go(1), 0);
            want = want * 6364136223846793005L + 1;
            due("trail() after " + i, x.trail(), want);
        }
        due("go(2000)", x.go(2000), 0);
        for (int i = 0; i < 2000; i++) {
            want = want * 6364136223846793005L + 1;
        }
        due("trail() ran over long ago", x.trail(), want);
    }

    /** "the place of each order that is done; then the place of a load or store" */
    private static void trailOfPlaces() {
        QuietDesk x = Order.machine(16368, Order.lw(1, 0, 0), Order.sw(1, 0, 4), Order.mul(1, 1, 1), Order.jalr(0, 0, 16));
        due("go(4)", x.go(4), 0);
        due("trail()", x.trail(), trailOf(16368, 0, 16372, 4, 16376, 16380));
        x = Order.machine(0, Order.lui(2, 4), Order.lw(1, 2, -4), Order.sw(1, 2, -8));
        due("go(3)", x.go(3), 0);
        due("trail()", x.trail(), trailOf(0, 4, 16380, 8, 16376));
    }

    /** "of DIV and so on both parts, the left one first (as ints)": negative ones, and the greatest, without running over. */
    private static void trailOfDivisions() {
        for (int kind = 4; kind < 8; kind++) {
            for (int a : NUMBERS) {
                for (int b : new int[] {0, -1, 1, GREATEST, LEAST, 77}) {
                    QuietDesk x = Order.machine(64, Order.plain(1, kind, 1, 1, 2), Order.addi(0, 0, 0));
                    x.set(1, a);
                    x.set(2, b);
                    due("go(2)", x.go(2), 0);
                    due("trail() of " + a + ", " + b + " by " + kind, x.trail(), trailOf(64, a, b, 68));
                }
            }
        }
    }

    /** No other order leaves more than its place. */
    private static void trailOfOtherOrders() {
        for (int kind = 0; kind < 8; kind++) {
            int[] orders = {kind << 12 | 1 << 15 | 0x13, Order.plain(0, kind, 3, 1, 2), Order.plain(1, kind & 3, 3, 1, 2),
                Order.plain(32, kind < 4 ? 0 : 5, 3, 1, 2), Order.lui(3, kind), Order.auipc(3, kind)};
            for (int order : orders) {
                QuietDesk x = Order.machine(64, order);
                x.set(1, 12345);
                x.set(2, -6);
                due("go(1)", x.go(1), 0);
                due("trail() of " + Integer.toHexString(order), x.trail(), 65);
            }
        }
    }
}
