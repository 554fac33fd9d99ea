/** The words of the machine's orders, written from the published tables. */
final class Order {
    static final int ECALL = 115;

    private Order() {
    }

    static int lui(int to, int upper) {
        return upper << 12 | to << 7 | 0x37;
    }

    static int auipc(int to, int upper) {
        return upper << 12 | to << 7 | 0x17;
    }

    static int jal(int to, int distance) {
        return (distance >> 20 & 1) << 31 | (distance >> 1 & 1023) << 21 | (distance >> 11 & 1) << 20
            | (distance >> 12 & 255) << 12 | to << 7 | 0x6F;
    }

    static int jalr(int to, int base, int number) {
        return number << 20 | base << 15 | to << 7 | 0x67;
    }

    private static int branch(int kind, int a, int b, int distance) {
        return (distance >> 12 & 1) << 31 | (distance >> 5 & 63) << 25 | b << 20 | a << 15 | kind << 12
            | (distance >> 1 & 15) << 8 | (distance >> 11 & 1) << 7 | 0x63;
    }

    static int beq(int a, int b, int distance) {
        return branch(0, a, b, distance);
    }

    static int bne(int a, int b, int distance) {
        return branch(1, a, b, distance);
    }

    static int blt(int a, int b, int distance) {
        return branch(4, a, b, distance);
    }

    static int bge(int a, int b, int distance) {
        return branch(5, a, b, distance);
    }

    static int bltu(int a, int b, int distance) {
        return branch(6, a, b, distance);
    }

    static int bgeu(int a, int b, int distance) {
        return branch(7, a, b, distance);
    }

    static int lw(int to, int base, int number) {
        return number << 20 | base << 15 | 2 << 12 | to << 7 | 0x03;
    }

    static int sw(int from, int base, int number) {
        return number >> 5 << 25 | from << 20 | base << 15 | 2 << 12 | (number & 31) << 7 | 0x23;
    }

    private static int withNumber(int kind, int to, int from, int number) {
        return number << 20 | from << 15 | kind << 12 | to << 7 | 0x13;
    }

    static int addi(int to, int from, int number) {
        return withNumber(0, to, from, number);
    }

    static int slti(int to, int from, int number) {
        return withNumber(2, to, from, number);
    }

    static int sltiu(int to, int from, int number) {
        return withNumber(3, to, from, number);
    }

    static int xori(int to, int from, int number) {
        return withNumber(4, to, from, number);
    }

    static int ori(int to, int from, int number) {
        return withNumber(6, to, from, number);
    }

    static int andi(int to, int from, int number) {
        return withNumber(7, to, from, number);
    }

    static int slli(int to, int from, int number) {
        return withNumber(1, to, from, number);
    }

    static int srli(int to, int from, int number) {
        return withNumber(5, to, from, number);
    }

    static int srai(int to, int from, int number) {
        return withNumber(5, to, from, number | 0x400);
    }

    /** An order of three registers: its upper seven bits, and its three bits in the middle. */
    static int plain(int upper, int kind, int to, int a, int b) {
        return upper << 25 | b << 20 | a << 15 | kind << 12 | to << 7 | 0x33;
    }

    static int add(int to, int a, int b) {
        return plain(0, 0, to, a, b);
    }

    static int mul(int to, int a, int b) {
        return plain(1, 0, to, a, b);
    }

    static int div(int to, int a, int b) {
        return plain(1, 4, to, a, b);
    }

    static int divu(int to, int a, int b) {
        return plain(1, 5, to, a, b);
    }

    static int rem(int to, int a, int b) {
        return plain(1, 6, to, a, b);
    }

    static int remu(int to, int a, int b) {
        return plain(1, 7, to, a, b);
    }

    /** A new object with orders in its memory, started at the first of them. */
    static QuietDesk machine(int at, int... orders) {
        QuietDesk x = new QuietDesk();
        for (int i = 0; i < orders.length; i++) {
            x.poke(at + 4 * i, orders[i]);
        }
        x.start(at);
        return x;
    }
}
