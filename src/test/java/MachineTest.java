import java.util.Random;

/** Promises 12 to 19 with random orders, against the reference. */
public final class MachineTest {
    private static final int[] EDGES = {0, 1, -1, 2, 3, 4, 8, 16, 31, 32, 33, 64, 256, 2048, 16380, 16384, -4, -16,
        Integer.MIN_VALUE, Integer.MAX_VALUE, Integer.MIN_VALUE + 1};
    private static final Bench bench = new Bench();
    private static final int[] stops = new int[4];
    private static final int[] done = new int[64];

    public static void main(String[] args) {
        int rounds = args.length > 0 ? Integer.parseInt(args[0]) : 3000;
        long seed = args.length > 1 ? Long.parseLong(args[1]) : 1;
        for (int i = 0; i < rounds && bench.wrong() == 0; i++) {
            oneMachine("seed " + seed + " round " + i, new Random(seed * 7919 + i));
        }
        System.out.println("stops " + java.util.Arrays.toString(stops) + ", orders that some machine met "
            + java.util.Arrays.toString(java.util.Arrays.copyOf(done, ReferenceMachine.forms())));
        for (int i = 0; i < ReferenceMachine.forms(); i++) {
            bench.due("order " + i + " was met", done[i] > 0, true);
        }
        bench.end("MachineTest");
    }

    private static void oneMachine(String name, Random random) {
        QuietDesk desk = new QuietDesk();
        ReferenceMachine reference = new ReferenceMachine();
        int base = random.nextInt(4) == 0 ? 16384 - 4 * (1 + random.nextInt(40)) : 16 * random.nextInt(900);
        int length = 20 + random.nextInt(100);
        boolean calm = random.nextInt(3) != 0;
        for (int i = 0; i < length && base + 4 * i < 16384; i++) {
            int order = calm ? calmOrder(random, i) : order(random);
            bench.due(name + " poke", desk.poke(base + 4 * i, order), true);
            reference.put(base + 4 * i, order);
        }
        for (int r = 0; r < 32; r++) {
            int v = calm && r <= 8 ? 4 * (1000 + random.nextInt(2000)) : value(random);
            bench.due(name + " set", desk.set(r, v), true);
            reference.x[r] = r == 0 ? 0 : v;
        }
        byte[] before = reference.memory.clone();
        for (int turn = 0; turn < 3; turn++) {
            int from = turn == 2 && random.nextBoolean() ? reference.place : base + 4 * random.nextInt(10);
            if (from >= 0 && from <= 16380 && from % 4 == 0 && (turn == 0 || random.nextInt(3) == 0)) {
                bench.due(name + " start", desk.start(from), true);
                reference.start(from);
            }
            int n = random.nextInt(5) == 0 ? random.nextInt(400) : random.nextInt(60);
            int stop = 0;
            for (int i = 0; i < n && stop == 0; i++) {
                meet(reference);
                stop = reference.one();
            }
            stops[stop]++;
            bench.due(name + " go(" + n + ")", desk.go(n), stop);
            compare(name, desk, reference);
        }
        compareMemory(name, desk, reference, before, random);
    }

    private static void meet(ReferenceMachine reference) {
        if (reference.place >= 0 && reference.place <= 16380 && reference.place % 4 == 0) {
            int w = reference.word(reference.place);
            for (int f = 0; f < ReferenceMachine.forms(); f++) {
                done[f] += (w & ReferenceMachine.mask(f)) == ReferenceMachine.match(f) ? 1 : 0;
            }
        }
    }

    private static int value(Random random) {
        switch (random.nextInt(4)) {
            case 0:
                return random.nextInt();
            case 1:
                return EDGES[random.nextInt(EDGES.length)];
            default:
                return 4 * random.nextInt(4000);
        }
    }

    private static int order(Random random) {
        if (random.nextInt(60) == 0) {
            return random.nextInt();
        }
        int form = random.nextInt(ReferenceMachine.forms());
        if (ReferenceMachine.match(form) == 115 && random.nextInt(4) != 0) {
            form = 0;
        }
        int mask = ReferenceMachine.mask(form);
        int order = ReferenceMachine.match(form) | random.nextInt() & ~mask;
        int low = order & 127;
        if (low == 0x63) {
            // Short ways alone, mostly to whole orders, so that there is more to do at the goal.
            order = order & 0x01FFF07F | (random.nextInt(6) + 1) * 2 << 8 | (random.nextInt(20) == 0 ? 0x100 : 0);
        } else if (low == 0x6F) {
            order = order & 0xFFF | (random.nextInt(6) + 1) * 2 << 21 | (random.nextInt(20) == 0 ? 1 << 21 : 0);
        } else if ((low == 0x03 || low == 0x23) && random.nextInt(8) != 0) {
            order = low == 0x03 ? order & ~(3 << 20) & 0x7FFFFFFF : order & ~(3 << 7) & 0x7FFFFFFF;
        }
        if (random.nextInt(80) == 0) {
            order ^= 1 << random.nextInt(32);
        }
        return order;
    }

    /** One at which nothing stops: places come from x1 to x8 alone, which stay, and jumps are short. */
    private static int calmOrder(Random random, int i) {
        int order = 0x37;
        for (int tries = 0; tries < 20 && (order & 127) == 0x37; tries++) {
            int form = random.nextInt(ReferenceMachine.forms());
            int match = ReferenceMachine.match(form);
            boolean leaves = match == 115 || (match & 127) == 0x67 || (match & 127) == 0x6F;
            order = leaves ? 0x37 : match | random.nextInt() & ~ReferenceMachine.mask(form);
        }
        int low = order & 127;
        if (low == 0x63) {
            boolean back = i > 12 && random.nextInt(3) == 0;
            int distance = back ? -4 * (1 + random.nextInt(10)) : 4 * (1 + random.nextInt(4));
            return order & 0x01FFF07F | (distance >> 12 & 1) << 31 | (distance >> 5 & 63) << 25
                | (distance >> 1 & 15) << 8 | (distance >> 11 & 1) << 7;
        }
        if (low == 0x23) {
            return order & 0x8FF0707F & ~(3 << 7) | (1 + random.nextInt(8)) << 15;
        }
        order = order & ~(31 << 7) | (9 + random.nextInt(23)) << 7;
        return low == 0x03 ? order & ~(31 << 15) & ~(3 << 20) | (1 + random.nextInt(8)) << 15 : order;
    }

    private static void compare(String name, QuietDesk desk, ReferenceMachine reference) {
        bench.due(name + " state(0)", desk.state(0), reference.place);
        bench.due(name + " state(1)", desk.state(1), reference.orders);
        bench.due(name + " state(2)", desk.state(2), reference.cycles);
        bench.due(name + " state(3)", desk.state(3), reference.misses);
        bench.due(name + " trail()", desk.trail(), reference.trail.longValue());
        for (int r = 0; r < 32; r++) {
            bench.due(name + " get(" + r + ")", desk.get(r), reference.x[r]);
        }
    }

    /** The words that changed, and some others: more calls than 512 are not promised. */
    private static void compareMemory(String name, QuietDesk desk, ReferenceMachine reference, byte[] before, Random random) {
        int asked = 0;
        for (int place = 0; place < 16384 && asked < 100; place += 4) {
            if (!java.util.Arrays.equals(before, place, place + 4, reference.memory, place, place + 4)) {
                bench.due(name + " peek(" + place + ")", desk.peek(place), reference.word(place));
                asked++;
            }
        }
        for (; asked < 200; asked++) {
            int place = 4 * random.nextInt(4096);
            bench.due(name + " peek(" + place + ")", desk.peek(place), reference.word(place));
        }
    }
}
