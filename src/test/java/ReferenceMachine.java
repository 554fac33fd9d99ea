import java.math.BigInteger;
import java.util.ArrayList;
import java.util.List;

/** The machine from the words of the document, with a table of orders and numbers without bounds. */
final class ReferenceMachine {
    private record Form(String name, char shape, int mask, int match) {
    }

    private static final List<Form> FORMS = new ArrayList<>();
    private static final BigInteger TWO32 = BigInteger.ONE.shiftLeft(32);

    static {
        form("LUI", 'U', 0x7F, 0x37);
        form("AUIPC", 'U', 0x7F, 0x17);
        form("JAL", 'J', 0x7F, 0x6F);
        form("JALR", 'I', 0x707F, 0x67);
        String[] branches = {"BEQ", "BNE", null, null, "BLT", "BGE", "BLTU", "BGEU"};
        String[] numbers = {"ADDI", null, "SLTI", "SLTIU", "XORI", null, "ORI", "ANDI"};
        String[] plain = {"ADD", "SLL", "SLT", "SLTU", "XOR", "SRL", "OR", "AND"};
        String[] more = {"MUL", "MULH", "MULHSU", "MULHU", "DIV", "DIVU", "REM", "REMU"};
        for (int f = 0; f < 8; f++) {
            if (branches[f] != null) {
                form(branches[f], 'B', 0x707F, f << 12 | 0x63);
            }
            if (numbers[f] != null) {
                form(numbers[f], 'I', 0x707F, f << 12 | 0x13);
            }
            form(plain[f], 'R', 0xFE00707F, f << 12 | 0x33);
            form(more[f], 'R', 0xFE00707F, 0x02000000 | f << 12 | 0x33);
        }
        form("SUB", 'R', 0xFE00707F, 0x40000033);
        form("SRA", 'R', 0xFE00707F, 0x40005033);
        form("SLLI", 'I', 0xFE00707F, 0x00001013);
        form("SRLI", 'I', 0xFE00707F, 0x00005013);
        form("SRAI", 'I', 0xFE00707F, 0x40005013);
        form("LW", 'I', 0x707F, 0x2003);
        form("SW", 'S', 0x707F, 0x2023);
        form("ECALL", 'E', -1, 115);
    }

    final byte[] memory = new byte[16384];
    final int[] x = new int[32];
    private final List<List<Integer>> sets = new ArrayList<>();
    int place;
    int orders;
    int cycles;
    int misses;
    BigInteger trail = BigInteger.ZERO;

    ReferenceMachine() {
        start(0);
    }

    private static void form(String name, char shape, int mask, int match) {
        FORMS.add(new Form(name, shape, mask, match));
    }

    static int forms() {
        return FORMS.size();
    }

    static int match(int form) {
        return FORMS.get(form).match;
    }

    static int mask(int form) {
        return FORMS.get(form).mask;
    }

    void start(int at) {
        place = at;
        orders = 0;
        cycles = 0;
        misses = 0;
        trail = BigInteger.ZERO;
        sets.clear();
        for (int i = 0; i < 16; i++) {
            sets.add(new ArrayList<>());
        }
    }

    int word(int at) {
        int w = 0;
        for (int i = 3; i >= 0; i--) {
            w = w << 8 | memory[at + i] & 255;
        }
        return w;
    }

    void put(int at, int v) {
        for (int i = 0; i < 4; i++) {
            memory[at + i] = (byte) (v >> 8 * i);
        }
    }

    private void access(int at) {
        List<Integer> set = sets.get(at / 16 % 16);
        Integer line = at / 16;
        if (!set.remove(line)) {
            misses++;
            cycles += 20;
            if (set.size() == 2) {
                set.remove(0);
            }
        }
        set.add(line);
    }

    private void event(int e) {
        trail = trail.multiply(BigInteger.valueOf(6364136223846793005L)).add(BigInteger.valueOf(e)).add(BigInteger.ONE);
        trail = BigInteger.valueOf(trail.longValue());
    }

    private static boolean there(int at) {
        return at >= 0 && at <= 16380 && at % 4 == 0;
    }

    private static int bits(int w, int high, int low) {
        return w << 31 - high >>> 31 - high + low;
    }

    private static int signed(int v, int width) {
        return v << 32 - width >> 32 - width;
    }

    private static int number(int w, char shape) {
        switch (shape) {
            case 'U':
                return bits(w, 31, 12) << 12;
            case 'J':
                return signed(bits(w, 31, 31) << 20 | bits(w, 19, 12) << 12 | bits(w, 20, 20) << 11 | bits(w, 30, 21) << 1,
                    21);
            case 'B':
                return signed(bits(w, 31, 31) << 12 | bits(w, 7, 7) << 11 | bits(w, 30, 25) << 5 | bits(w, 11, 8) << 1, 13);
            case 'S':
                return signed(bits(w, 31, 25) << 5 | bits(w, 11, 7), 12);
            default:
                return signed(bits(w, 31, 20), 12);
        }
    }

    private static BigInteger unsigned(int v) {
        return v < 0 ? BigInteger.valueOf(v).add(TWO32) : BigInteger.valueOf(v);
    }

    /** 0, or why it stops. */
    int one() {
        if (!there(place)) {
            return 3;
        }
        int w = word(place);
        Form form = null;
        for (Form f : FORMS) {
            if ((w & f.mask) == f.match) {
                form = f;
            }
        }
        if (form == null) {
            return 2;
        }
        if (form.name.equals("ECALL")) {
            return 1;
        }
        int n = number(w, form.shape);
        int a = x[bits(w, 19, 15)];
        int b = form.shape == 'I' ? n : x[bits(w, 24, 20)];
        boolean reaches = form.name.equals("LW") || form.name.equals("SW");
        if (reaches && !there(a + n)) {
            return 3;
        }
        orders++;
        cycles++;
        access(place);
        event(place);
        if (reaches) {
            access(a + n);
            event(a + n);
        }
        doForm(form, w, a, b, n);
        x[0] = 0;
        return 0;
    }

    private void doForm(Form form, int w, int a, int b, int n) {
        int to = bits(w, 11, 7);
        int next = place + 4;
        switch (form.name) {
            case "LUI":
                x[to] = n;
                break;
            case "AUIPC":
                x[to] = place + n;
                break;
            case "JAL":
            case "JALR":
                next = form.shape == 'J' ? place + n : a + n & ~1;
                x[to] = place + 4;
                cycles++;
                break;
            case "LW":
                x[to] = word(a + n);
                break;
            case "SW":
                put(a + n, b);
                break;
            default:
                if (form.shape == 'B') {
                    if (taken(form.name, a, b)) {
                        next = place + n;
                        cycles++;
                    }
                } else {
                    x[to] = result(form.name, a, b);
                }
                break;
        }
        place = next;
    }

    private static boolean taken(String name, int a, int b) {
        int order = name.endsWith("U") ? unsigned(a).compareTo(unsigned(b)) : Integer.compare(a, b);
        switch (name.substring(0, 3)) {
            case "BEQ":
                return order == 0;
            case "BNE":
                return order != 0;
            case "BLT":
                return order < 0;
            default:
                return order >= 0;
        }
    }

    private int result(String name, int a, int b) {
        BigInteger sa = BigInteger.valueOf(a);
        BigInteger sb = BigInteger.valueOf(b);
        switch (name) {
            case "MUL":
                cycles += 3;
                return a * b;
            case "MULH":
                cycles += 3;
                return sa.multiply(sb).shiftRight(32).intValue();
            case "MULHSU":
                cycles += 3;
                return sa.multiply(unsigned(b)).shiftRight(32).intValue();
            case "MULHU":
                cycles += 3;
                return unsigned(a).multiply(unsigned(b)).shiftRight(32).intValue();
            case "DIV":
            case "REM":
            case "DIVU":
            case "REMU":
                cycles += 32;
                event(a);
                event(b);
                boolean u = name.endsWith("U");
                BigInteger l = u ? unsigned(a) : sa;
                BigInteger r = u ? unsigned(b) : sb;
                if (b == 0) {
                    return name.startsWith("DIV") ? -1 : a;
                }
                return (name.startsWith("DIV") ? l.divide(r) : l.remainder(r)).intValue();
            default:
                return simple(name.replace("ADDI", "ADD").replace("SLTIU", "SLTU").replaceFirst("(?<=..)I$", ""), a, b);
        }
    }

    private static int simple(String name, int a, int b) {
        switch (name) {
            case "ADD":
                return a + b;
            case "SUB":
                return a - b;
            case "SLL":
                return a << bits(b, 4, 0);
            case "SRL":
                return a >>> bits(b, 4, 0);
            case "SRA":
                return a >> bits(b, 4, 0);
            case "SLT":
                return a < b ? 1 : 0;
            case "SLTU":
                return unsigned(a).compareTo(unsigned(b)) < 0 ? 1 : 0;
            case "XOR":
                return a ^ b;
            case "OR":
                return a | b;
            case "AND":
                return a & b;
            default:
                throw new IllegalStateException(name);
        }
    }
}
