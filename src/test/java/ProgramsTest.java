import java.util.Random;

/** Promises 2 to 11 with random programs, against the reference. */
public final class ProgramsTest {
    private static final ReferenceGrammar GRAMMAR = new ReferenceGrammar();
    private static final int[] EDGES = {0, 1, -1, 2, 3, 4, 5, 31, 32, Integer.MIN_VALUE, Integer.MAX_VALUE, 65536};
    /** Of the words, and of what was told. */
    private static final int MOST_ASKED = 12;
    private static final Bench bench = new Bench();
    /** By the number of what was wrong; 0 for right ones. */
    private static final int[] loads = new int[9];
    private static int faults = 0;
    /** Used for some programs one after another, so that what one of them leaves behind is seen. */
    private static QuietDesk desk = new QuietDesk();
    private static int calls = 0;
    private static final int[] ends = new int[4];

    public static void main(String[] args) {
        int rounds = args.length > 0 ? Integer.parseInt(args[0]) : 6000;
        long seed = args.length > 1 ? Long.parseLong(args[1]) : 1;
        for (int i = 0; i < rounds; i++) {
            Random random = new Random(seed * 1000003 + i);
            int careless = random.nextInt(3) == 0 ? 15 : 0;
            String text = new RandomText(random, 700, careless).program();
            if (random.nextInt(4) == 0) {
                text = RandomText.spoilt(random, text);
            }
            if (text.length() <= 3000) {
                oneProgram("seed " + seed + " round " + i, text, random);
            }
            if (bench.wrong() > 0) {
                System.out.println(text);
                break;
            }
        }
        System.out.println("faults " + faults + "; right, then wrong by number " + java.util.Arrays.toString(loads)
            + "; ends " + java.util.Arrays.toString(ends));
        bench.due("some programs have a fault", faults > 0 || rounds < 6000, true);
        for (int i = 0; i < 9; i++) {
            bench.due("some programs are wrong by " + i, loads[i] > 0 || rounds < 6000, true);
        }
        for (int i = 0; i < 3; i++) {
            bench.due("some runs end by " + i, ends[i] > 0 || rounds < 6000, true);
        }
        bench.end("ProgramsTest");
    }

    private static void oneProgram(String name, String text, Random random) {
        // What a program takes at most stays below 300 calls; more than 512 of an object are not promised.
        if (random.nextInt(4) == 0 || calls + text.length() / 20 + 320 > 512) {
            desk = new QuietDesk();
            calls = 0;
        }
        calls += text.length() / 20 + 10;
        int n = Bench.feed(desk, text);
        int fault = GRAMMAR.fault(text);
        ReferenceProgram reference = null;
        int number = 0;
        int place = fault;
        if (fault < 0) {
            try {
                reference = new ReferenceProgram(text);
            } catch (ReferenceProgram.Wrong wrong) {
                number = wrong.number;
                place = wrong.place;
            }
        }
        bench.due(name + " load", desk.load(n), fault >= 0 ? -2 : reference == null ? -3 : 0);
        bench.due(name + " told(0)", desk.told(0), place);
        bench.due(name + " told(1)", desk.told(1), place < 0 ? -1 : number);
        if (fault >= 0) {
            faults++;
        } else {
            loads[number]++;
        }
        if (reference == null) {
            bench.due(name + " run", desk.run(5), -1);
            bench.due(name + " count(0)", desk.count(0), -1);
            return;
        }
        int open = 0;
        for (boolean secret : reference.inputSecret) {
            open += secret ? 0 : 1;
        }
        bench.due(name + " count(0)", desk.count(0), reference.words);
        bench.due(name + " count(1)", desk.count(1), reference.inputs.length);
        bench.due(name + " count(2)", desk.count(2), open);
        int callsOfARun = reference.inputs.length + 2 * MOST_ASKED + 15;
        for (int i = 0; i < 6 && (i + 1) * callsOfARun < 300; i++) {
            calls += callsOfARun;
            giveInputs(reference, random, i % 2 == 1);
            int steps = i % 2 == 1 ? reference.limit : random.nextInt(3) == 0 ? random.nextInt(20) : random.nextInt(500);
            compareRun(name + " run " + i, reference, steps);
        }
    }

    private static void giveInputs(ReferenceProgram reference, Random random, boolean secretsAlone) {
        for (int k = 0; k < reference.inputs.length; k++) {
            if (!secretsAlone || reference.inputSecret.get(k)) {
                int v = random.nextInt(3) == 0 ? random.nextInt() : EDGES[random.nextInt(EDGES.length)];
                reference.inputs[k] = v;
                bench.due("input", desk.input(k, v), true);
            }
        }
        bench.due("input behind the last", desk.input(reference.inputs.length, 1), false);
    }

    private static void compareRun(String name, ReferenceProgram reference, int steps) {
        int end = reference.run(steps);
        ends[end]++;
        bench.due(name + " run(" + steps + ")", desk.run(steps), end);
        bench.due(name + " ran(0)", desk.ran(0), reference.endPlace);
        bench.due(name + " ran(1)", desk.ran(1), reference.steps);
        bench.due(name + " ran(2)", desk.ran(2), reference.told.size());
        int some = Math.max(0, reference.told.size() - MOST_ASKED);
        for (int i = some - 1; i <= reference.told.size(); i++) {
            int want = i >= 0 && i < reference.told.size() ? reference.told.get(i) : 0;
            bench.due(name + " out(" + i + ")", desk.out(i), want);
        }
        int stride = reference.words / MOST_ASKED + 1;
        for (int k = -1; k <= reference.words; k += stride) {
            int want = k >= 0 && k < reference.words ? reference.memory[k] : 0;
            bench.due(name + " word(" + k + ")", desk.word(k), want);
        }
        bench.due(name + " quiet()", desk.quiet(), true);
    }
}
