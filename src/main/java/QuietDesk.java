import java.util.Arrays;

/**
 * Programs with public and secret numbers: read, refused where something secret could be seen
 * from without, and run on a small machine; and such a machine by itself.
 */
public final class QuietDesk {
    public static final int NONE = -1;

    private static final int RIGHT = 0;
    private static final int FAULTY = -2;
    private static final int WRONG = -3;
    private static final int MOST_STEPS = 2000;
    private static final int MOST_ORDERS = 2000;

    private final Tape tape;
    private final Tokens tokens;
    private final Machine machine;
    private final Nodes nodes;
    private final Names names;
    private final Reader reader;
    private final Judge judge;
    private final Coder coder;
    private final Work work;
    private boolean ready;
    private int toldPlace;
    private int toldNumber;

    public QuietDesk() {
        tape = new Tape();
        tokens = new Tokens(tape);
        machine = new Machine();
        nodes = new Nodes();
        names = new Names(tape);
        reader = new Reader(tokens, nodes);
        judge = new Judge(nodes, names);
        Machine own = new Machine();
        coder = new Coder(nodes, names, own);
        work = new Work(nodes, names, own);
        ready = false;
        toldPlace = NONE;
        toldNumber = NONE;
    }

    public int feed(int a, int b, int c, int d, int e) {
        if (!tape.hasRoom()) {
            return NONE;
        }
        tape.add(a);
        tape.add(b);
        tape.add(c);
        tape.add(d);
        tape.add(e);
        return tape.fed();
    }

    public int load(int n) {
        if (n < 0 || n > tape.fed()) {
            return NONE;
        }
        tape.cut(n);
        nodes.clear(n);
        names.clear();
        work.clear();
        tokens.read(n);
        int fault = reader.read();
        int number = fault == NONE ? judge.firstWrong() : 0;
        tape.empty();
        ready = fault == NONE && number == 0;
        toldPlace = fault == NONE ? judge.wrongPlace() : fault;
        toldNumber = ready ? NONE : number;
        if (ready) {
            coder.write();
            return RIGHT;
        }
        return fault == NONE ? WRONG : FAULTY;
    }

    public int told(int what) {
        if (what == 0) {
            return toldPlace;
        }
        return what == 1 ? toldNumber : NONE;
    }

    public int count(int what) {
        if (!ready) {
            return NONE;
        }
        switch (what) {
            case 0:
                return names.words();
            case 1:
                return names.inputs();
            case 2:
                return names.publicInputs();
            default:
                return NONE;
        }
    }

    public boolean input(int k, int v) {
        return ready && work.give(k, v);
    }

    public int run(int steps) {
        if (!ready || steps < 0 || steps > MOST_STEPS) {
            return NONE;
        }
        return work.perform(steps);
    }

    public int ran(int what) {
        if (!work.hasRun()) {
            return NONE;
        }
        switch (what) {
            case 0:
                return work.endPlace();
            case 1:
                return work.stepsDone();
            case 2:
                return work.tellings();
            default:
                return NONE;
        }
    }

    public int out(int i) {
        return work.telling(i);
    }

    public int word(int k) {
        return work.wordLeft(k);
    }

    public boolean quiet() {
        return work.lastTwoAlike();
    }

    public boolean poke(int place, int v) {
        return machine.store(place, v);
    }

    public int peek(int place) {
        return machine.fetch(place);
    }

    public boolean set(int register, int v) {
        return machine.fill(register, v);
    }

    public int get(int register) {
        return machine.register(register);
    }

    public boolean start(int place) {
        return machine.beginAt(place);
    }

    public int go(int n) {
        if (n < 0 || n > MOST_ORDERS) {
            return NONE;
        }
        return machine.work(n);
    }

    public int state(int what) {
        switch (what) {
            case 0:
                return machine.place();
            case 1:
                return machine.ordersDone();
            case 2:
                return (int) machine.cycles();
            case 3:
                return machine.misses();
            default:
                return NONE;
        }
    }

    public long trail() {
        return machine.events();
    }

    /** The bytes that were fed; within a load only those of the program can be seen. */
    private static final class Tape {
        private static final int MOST = 3000;
        private static final int ONE_FEED = 20;

        private final byte[] bytes = new byte[MOST];
        private int used;

        boolean hasRoom() {
            return used <= MOST - ONE_FEED;
        }

        void add(int four) {
            for (int shift = 24; shift >= 0; shift -= 8) {
                if (used >= 0 && used < MOST) {
                    bytes[used] = (byte) (four >> shift);
                    used++;
                }
            }
        }

        int fed() {
            return used;
        }

        void cut(int n) {
            used = Math.max(0, Math.min(n, used));
        }

        void empty() {
            used = 0;
        }

        /** The byte at a place, 0 to 255, or NONE where there is none. */
        int at(int place) {
            return place < 0 || place >= used || place >= MOST ? NONE : bytes[place] & 255;
        }

        int afterBlanks(int from) {
            int place = from;
            while (place < used && isBlank(at(place))) {
                place++;
            }
            return place;
        }

        int afterDigits(int from) {
            int place = from;
            while (place < used && isDigit(at(place))) {
                place++;
            }
            return place;
        }

        int afterName(int from) {
            int place = from;
            while (place < used && isNamePart(at(place))) {
                place++;
            }
            return place;
        }

        boolean sameName(int one, int other) {
            for (int i = 0; i < used; i++) {
                int a = at(one + i);
                int b = at(other + i);
                if (!isNamePart(a) || !isNamePart(b)) {
                    return isNamePart(a) == isNamePart(b);
                }
                if (a != b) {
                    return false;
                }
            }
            return true;
        }

        boolean isText(int from, int to, String text) {
            if (to - from != text.length()) {
                return false;
            }
            for (int i = 0; i < text.length(); i++) {
                if (at(from + i) != text.charAt(i)) {
                    return false;
                }
            }
            return true;
        }

        static boolean isBlank(int c) {
            return c == 9 || c == 10 || c == 13 || c == 32;
        }

        static boolean isLetter(int c) {
            return c >= 'a' && c <= 'z' || c >= 'A' && c <= 'Z';
        }

        static boolean isDigit(int c) {
            return c >= '0' && c <= '9';
        }

        static boolean isNamePart(int c) {
            return isLetter(c) || isDigit(c);
        }
    }

    /** All tokens up to the end or the first byte without one. A sign of one byte is its own kind. */
    private static final class Tokens {
        static final int END = 0;
        static final int NO_TOKEN = 1;
        static final int NAME = 2;
        static final int NUMBER = 3;
        static final int PUB = 4;
        static final int SEC = 5;
        static final int IN = 6;
        static final int OUT = 7;
        static final int IF = 8;
        static final int ELSE = 9;
        static final int WHILE = 10;
        static final int LESS_OR_EQUAL = 128;
        static final int EQUAL = 129;
        static final int SHIFT_LEFT = 130;
        static final int SHIFT_RIGHT = 131;

        private static final String SIGNS = "()[]{};=+-*/%&|^~!<";
        private static final int LONGEST_NAME = 10;
        private static final long GREATEST = 2147483647L;

        private final Tape tape;
        private int[] kinds = new int[0];
        private int[] places = new int[0];
        private int[] numbers = new int[0];
        private int used;
        private int current;
        private int first;
        private int behind;
        private int amount;

        Tokens(Tape tape) {
            this.tape = tape;
        }

        void read(int n) {
            if (n >= kinds.length) {
                kinds = new int[n + 1];
                places = new int[n + 1];
                numbers = new int[n + 1];
            }
            used = 0;
            current = 0;
            behind = 0;
            int sort = NAME;
            while (used < kinds.length && sort != END && sort != NO_TOKEN) {
                first = tape.afterBlanks(behind);
                amount = 0;
                sort = readOne(tape.at(first));
                kinds[used] = sort;
                places[used] = first;
                numbers[used] = amount;
                used++;
            }
        }

        int kind() {
            return current < used && current < kinds.length ? kinds[current] : END;
        }

        int place() {
            return current < used && current < places.length ? places[current] : NONE;
        }

        int number() {
            return current < used && current < numbers.length ? numbers[current] : 0;
        }

        void next() {
            current = Math.min(current + 1, used);
        }

        private int readOne(int c) {
            if (c == NONE) {
                return END;
            }
            if (Tape.isLetter(c)) {
                behind = tape.afterName(first);
                return behind - first > LONGEST_NAME ? NO_TOKEN : wordOrName();
            }
            if (Tape.isDigit(c)) {
                behind = tape.afterDigits(first);
                return readNumber();
            }
            int sort = longSign(c, tape.at(first + 1));
            behind = first + (sort == NO_TOKEN ? 1 : 2);
            if (sort == NO_TOKEN && SIGNS.indexOf((char) c) >= 0) {
                return c;
            }
            return sort;
        }

        private int wordOrName() {
            if (isWord("pub")) {
                return PUB;
            }
            if (isWord("sec")) {
                return SEC;
            }
            if (isWord("in")) {
                return IN;
            }
            if (isWord("out")) {
                return OUT;
            }
            if (isWord("if")) {
                return IF;
            }
            if (isWord("else")) {
                return ELSE;
            }
            return isWord("while") ? WHILE : NAME;
        }

        private boolean isWord(String word) {
            return tape.isText(first, behind, word);
        }

        private int readNumber() {
            long sum = 0;
            for (int place = first; place < behind; place++) {
                // Kept just above the greatest, so that no row of digits runs over.
                sum = Math.min(sum * 10 + (tape.at(place) - '0'), GREATEST + 1);
            }
            boolean zeroInFront = tape.at(first) == '0' && behind - first > 1;
            if (sum > GREATEST || zeroInFront || Tape.isLetter(tape.at(behind))) {
                return NO_TOKEN;
            }
            amount = (int) sum;
            return NUMBER;
        }

        private static int longSign(int c, int d) {
            if (c == '<' && d == '=') {
                return LESS_OR_EQUAL;
            }
            if (c == '<' && d == '<') {
                return SHIFT_LEFT;
            }
            if (c == '=' && d == '=') {
                return EQUAL;
            }
            return c == '>' && d == '>' ? SHIFT_RIGHT : NO_TOKEN;
        }
    }

    /**
     * A program as one row of nodes in the order of its text, each EXPR with its parts before the
     * whole. A row and not a tree, as chains like a + a + a are far longer than calls may nest.
     */
    private static final class Nodes {
        static final int NUMBER = Tokens.NUMBER;
        static final int NAME = Tokens.NAME;
        static final int DECLARE = 11;
        static final int LENGTH = 12;
        static final int TARGET = 13;
        static final int TARGET_ROW = 14;
        static final int INDEX = 15;
        static final int PUT = 16;
        static final int IF = 17;
        static final int THEN = 18;
        static final int ELSE = 19;
        static final int END_IF = 20;
        static final int WHILE = 21;
        static final int LOOK = 22;
        static final int DO = 23;
        static final int END_WHILE = 24;
        static final int OUT = 25;
        static final int TELL = 26;
        static final int ROW = 27;
        static final int ITEM = 28;
        static final int NEGATE = 29;
        static final int NOTHING = 30;

        private int[] kinds = new int[0];
        private int[] places = new int[0];
        private int[] values = new int[0];
        private int[] sizes = new int[0];
        private int[] needs = new int[0];
        private int[] ties = new int[0];
        private int[] backs = new int[0];
        private boolean[] secrets = new boolean[0];
        private boolean[] calls = new boolean[0];
        private int used;

        /** Each node comes of at least one byte of its own, so n of them are enough. */
        void clear(int n) {
            used = 0;
            if (n > kinds.length) {
                kinds = new int[n];
                places = new int[n];
                values = new int[n];
                sizes = new int[n];
                needs = new int[n];
                ties = new int[n];
                backs = new int[n];
                secrets = new boolean[n];
                calls = new boolean[n];
            }
        }

        int size() {
            return used;
        }

        int add(int kind, int place, int value) {
            if (used >= kinds.length) {
                return NONE;
            }
            int i = used;
            kinds[i] = kind;
            places[i] = place;
            values[i] = value;
            sizes[i] = 1;
            needs[i] = 1;
            ties[i] = NONE;
            backs[i] = NONE;
            secrets[i] = false;
            calls[i] = false;
            used++;
            return i;
        }

        /** A node around the EXPR or UNARY that ends just before it. */
        void addAround(int kind, int place, int value) {
            int i = add(kind, place, value);
            if (has(i) && has(i - 1)) {
                // The ROW before the EXPR of an ITEM belongs to it.
                sizes[i] = sizes[i - 1] + (kind == ITEM ? 2 : 1);
                needs[i] = needs[i - 1];
                calls[i] = kind == ITEM || calls[i - 1];
            }
        }

        /** A node of two parts, the right one ending just before it. */
        void addPair(int kind, int place) {
            int i = add(kind, place, NONE);
            int left = left(i);
            if (has(i) && has(i - 1) && has(left)) {
                sizes[i] = sizes[i - 1] + sizes[left] + 1;
                needs[i] = needs[left] == needs[i - 1] ? needs[left] + 1 : Math.max(needs[left], needs[i - 1]);
                calls[i] = calls[left] || calls[i - 1];
            }
        }

        /** The left part of a node of two. */
        int left(int i) {
            return has(i - 1) ? i - 1 - sizes[i - 1] : NONE;
        }

        boolean has(int i) {
            return i >= 0 && i < used && i < kinds.length;
        }

        int kind(int i) {
            return has(i) ? kinds[i] : NOTHING;
        }

        void turnInto(int i, int kind) {
            if (has(i)) {
                kinds[i] = kind;
            }
        }

        int place(int i) {
            return has(i) ? places[i] : NONE;
        }

        int value(int i) {
            return has(i) ? values[i] : NONE;
        }

        void keepValue(int i, int value) {
            if (has(i)) {
                values[i] = value;
            }
        }

        /** How many registers its value needs when the part that needs more comes first. */
        int need(int i) {
            return has(i) ? needs[i] : 0;
        }

        /** Whether an index is looked at in it. */
        boolean calls(int i) {
            return has(i) && calls[i];
        }

        boolean secret(int i) {
            return has(i) && secrets[i];
        }

        void keepSecret(int i, boolean secret) {
            if (has(i)) {
                secrets[i] = secret;
            }
        }

        /** Of a part the whole, of a THEN, ELSE or DO its open jump. */
        int tie(int i) {
            return has(i) ? ties[i] : NONE;
        }

        void keepTie(int i, int tie) {
            if (has(i)) {
                ties[i] = tie;
            }
        }

        /** The place on the machine to which what was called for this node comes back. */
        int back(int i) {
            return has(i) ? backs[i] : NONE;
        }

        void keepBack(int i, int back) {
            if (has(i)) {
                backs[i] = back;
            }
        }

        /** The place on the tape of the node whose call comes back there. */
        int placeOfBack(int back) {
            for (int i = 0; i < used && i < backs.length; i++) {
                if (backs[i] == back) {
                    return place(i);
                }
            }
            return NONE;
        }

        /** How closely an operator binds, from 0 on; NONE for what is none of two parts. */
        static int level(int kind) {
            switch (kind) {
                case '|':
                    return 0;
                case '^':
                    return 1;
                case '&':
                    return 2;
                case '<':
                case Tokens.EQUAL:
                case Tokens.LESS_OR_EQUAL:
                    return 3;
                case Tokens.SHIFT_LEFT:
                case Tokens.SHIFT_RIGHT:
                    return 4;
                case '+':
                case '-':
                    return 5;
                case '*':
                case '/':
                case '%':
                    return 6;
                default:
                    return NONE;
            }
        }
    }

    /** Reads the grammar; every method does nothing more once there is a fault. */
    private static final class Reader {
        private static final int DEEPEST = 30;

        private final Tokens tokens;
        private final Nodes nodes;
        private int fault;

        Reader(Tokens tokens, Nodes nodes) {
            this.tokens = tokens;
            this.nodes = nodes;
        }

        /** The place of the fault, or NONE. */
        int read() {
            fault = NONE;
            for (int i = 0; i < Tape.MOST && fault == NONE && atLevel(); i++) {
                declaration();
            }
            statements(0);
            take(Tokens.END);
            return fault;
        }

        private boolean atLevel() {
            return tokens.kind() == Tokens.PUB || tokens.kind() == Tokens.SEC;
        }

        private void fail() {
            if (fault == NONE) {
                fault = tokens.place();
            }
        }

        private boolean take(int kind) {
            if (fault == NONE && tokens.kind() == kind) {
                tokens.next();
                return true;
            }
            fail();
            return false;
        }

        private void declaration() {
            int manner = tokens.kind() == Tokens.SEC ? Names.SECRET : 0;
            tokens.next();
            if (tokens.kind() == Tokens.IN) {
                manner |= Names.INPUT;
                tokens.next();
            }
            nodes.add(Nodes.DECLARE, tokens.place(), manner);
            if (!take(Tokens.NAME)) {
                return;
            }
            if (tokens.kind() == '[') {
                tokens.next();
                nodes.add(Nodes.LENGTH, tokens.place(), tokens.number());
                if (!take(Tokens.NUMBER) || !take(']')) {
                    return;
                }
            }
            take(';');
        }

        private void statements(int depth) {
            for (int i = 0; i < Tape.MOST && fault == NONE; i++) {
                if (tokens.kind() == '}' || tokens.kind() == Tokens.END) {
                    return;
                }
                statement(depth);
            }
        }

        private void statement(int depth) {
            switch (tokens.kind()) {
                case Tokens.NAME:
                    putStatement(depth);
                    break;
                case Tokens.IF:
                    ifStatement(depth);
                    break;
                case Tokens.WHILE:
                    whileStatement(depth);
                    break;
                case Tokens.OUT:
                    outStatement(depth);
                    break;
                default:
                    fail();
                    break;
            }
        }

        private void putStatement(int depth) {
            int place = tokens.place();
            int target = nodes.add(Nodes.TARGET, place, NONE);
            tokens.next();
            if (tokens.kind() == '[') {
                int bracket = tokens.place();
                nodes.turnInto(target, Nodes.TARGET_ROW);
                tokens.next();
                expression(depth);
                nodes.add(Nodes.INDEX, bracket, target);
                if (!take(']')) {
                    return;
                }
            }
            if (take('=')) {
                expression(depth);
                nodes.add(Nodes.PUT, place, target);
                take(';');
            }
        }

        private void ifStatement(int depth) {
            int place = tokens.place();
            nodes.add(Nodes.IF, place, NONE);
            tokens.next();
            if (!take('(')) {
                return;
            }
            expression(depth);
            int then = nodes.add(Nodes.THEN, place, NONE);
            if (!take(')')) {
                return;
            }
            block(depth);
            if (fault == NONE && tokens.kind() == Tokens.ELSE) {
                nodes.keepValue(then, nodes.add(Nodes.ELSE, tokens.place(), then));
                tokens.next();
                block(depth);
            }
            nodes.add(Nodes.END_IF, place, then);
        }

        private void whileStatement(int depth) {
            int place = tokens.place();
            nodes.add(Nodes.WHILE, place, NONE);
            int look = nodes.add(Nodes.LOOK, place, NONE);
            tokens.next();
            if (!take('(')) {
                return;
            }
            expression(depth);
            int body = nodes.add(Nodes.DO, place, look);
            if (!take(')')) {
                return;
            }
            block(depth);
            nodes.add(Nodes.END_WHILE, place, body);
        }

        private void outStatement(int depth) {
            int place = tokens.place();
            nodes.add(Nodes.OUT, place, NONE);
            tokens.next();
            expression(depth);
            nodes.add(Nodes.TELL, place, NONE);
            take(';');
        }

        private void block(int depth) {
            if (depth > DEEPEST) {
                fail();
            }
            if (take('{')) {
                statements(depth + 1);
                take('}');
            }
        }

        private void expression(int depth) {
            if (depth > DEEPEST) {
                fail();
            }
            parts(0, depth);
        }

        /** Parts with operators of this level or closer ones between. */
        private void parts(int level, int depth) {
            unary(depth + 1);
            for (int i = 0; i < Tape.MOST && fault == NONE; i++) {
                int operator = tokens.kind();
                int place = tokens.place();
                int closeness = Nodes.level(operator);
                if (closeness < level) {
                    return;
                }
                tokens.next();
                parts(closeness + 1, depth);
                nodes.addPair(operator, place);
            }
        }

        private void unary(int depth) {
            if (depth > DEEPEST) {
                fail();
            }
            if (fault != NONE) {
                return;
            }
            int place = tokens.place();
            int kind = tokens.kind();
            switch (kind) {
                case '-':
                case '~':
                case '!':
                    tokens.next();
                    unary(depth + 1);
                    nodes.addAround(kind == '-' ? Nodes.NEGATE : kind, place, NONE);
                    break;
                case '(':
                    tokens.next();
                    expression(depth + 1);
                    take(')');
                    break;
                case Tokens.NUMBER:
                    nodes.add(Nodes.NUMBER, place, tokens.number());
                    tokens.next();
                    break;
                case Tokens.NAME:
                    tokens.next();
                    nameOrItem(place, depth);
                    break;
                default:
                    fail();
                    break;
            }
        }

        private void nameOrItem(int place, int depth) {
            if (tokens.kind() != '[') {
                nodes.add(Nodes.NAME, place, NONE);
                return;
            }
            int bracket = tokens.place();
            int row = nodes.add(Nodes.ROW, place, bracket);
            tokens.next();
            expression(depth + 1);
            nodes.addAround(Nodes.ITEM, bracket, row);
            take(']');
        }
    }

    /** What was declared, in its order. */
    private static final class Names {
        static final int SECRET = 1;
        static final int INPUT = 2;
        static final int MOST_WORDS = 200;

        private final Tape tape;
        private final int[] places = new int[MOST_WORDS];
        private final int[] firsts = new int[MOST_WORDS];
        private final int[] lengths = new int[MOST_WORDS];
        private final int[] manners = new int[MOST_WORDS];
        private final int[] inputWords = new int[MOST_WORDS];
        private final boolean[] inputSecrets = new boolean[MOST_WORDS];
        private int used;
        private int words;
        private int inputs;
        private int publicInputs;

        Names(Tape tape) {
            this.tape = tape;
        }

        void clear() {
            used = 0;
            words = 0;
            inputs = 0;
            publicInputs = 0;
        }

        int size() {
            return used;
        }

        int words() {
            return words;
        }

        int inputs() {
            return inputs;
        }

        int publicInputs() {
            return publicInputs;
        }

        /** The number of the name that stands at a place of the tape, or NONE. */
        int find(int place) {
            for (int i = 0; i < used && i < MOST_WORDS; i++) {
                if (tape.sameName(places[i], place)) {
                    return i;
                }
            }
            return NONE;
        }

        /** A single one has the length 0. */
        boolean declare(int place, int length, int manner) {
            int more = Math.max(1, length);
            if (words + more > MOST_WORDS || used >= MOST_WORDS) {
                return false;
            }
            places[used] = place;
            firsts[used] = words;
            lengths[used] = length;
            manners[used] = manner;
            used++;
            if ((manner & INPUT) != 0) {
                addInputs(words, more, (manner & SECRET) != 0);
            }
            words += more;
            return true;
        }

        private void addInputs(int first, int more, boolean secret) {
            for (int i = 0; i < more && inputs < MOST_WORDS; i++) {
                inputWords[inputs] = first + i;
                inputSecrets[inputs] = secret;
                inputs++;
                publicInputs += secret ? 0 : 1;
            }
        }

        private boolean has(int name) {
            return name >= 0 && name < used && name < MOST_WORDS;
        }

        boolean secret(int name) {
            return has(name) && (manners[name] & SECRET) != 0;
        }

        boolean isRow(int name) {
            return length(name) > 0;
        }

        int length(int name) {
            return has(name) ? lengths[name] : 0;
        }

        int firstWord(int name) {
            return has(name) ? firsts[name] : 0;
        }

        boolean hasInput(int k) {
            return k >= 0 && k < inputs && k < MOST_WORDS;
        }

        int inputWord(int k) {
            return hasInput(k) ? inputWords[k] : 0;
        }

        boolean inputSecret(int k) {
            return hasInput(k) && inputSecrets[k];
        }
    }

    /** Finds the first thing that is wrong, and what each name of the program means. */
    private static final class Judge {
        private static final int LONGEST_ROW = 64;

        private final Nodes nodes;
        private final Names names;
        private int where;
        private int hidden;

        Judge(Nodes nodes, Names names) {
            this.nodes = nodes;
            this.names = names;
        }

        /** Its number, or 0. */
        int firstWrong() {
            hidden = 0;
            where = NONE;
            for (int i = 0; i < nodes.size(); i++) {
                int number = look(i);
                if (number != 0) {
                    return number;
                }
            }
            return 0;
        }

        int wrongPlace() {
            return where;
        }

        private int look(int i) {
            switch (nodes.kind(i)) {
                case Nodes.DECLARE:
                    return lookAtDeclaration(i);
                case Nodes.TARGET:
                case Nodes.TARGET_ROW:
                    return lookAtTarget(i);
                case Nodes.INDEX:
                    return wrongIf(nodes.secret(i - 1), 4, i);
                case Nodes.PUT:
                    return wrongIf(nodes.secret(i - 1) && !names.secret(nodes.value(nodes.value(i))), 7, i);
                case Nodes.WHILE:
                case Nodes.OUT:
                    return wrongIf(hidden > 0, 8, i);
                case Nodes.DO:
                    return wrongIf(nodes.secret(i - 1), 6, i);
                case Nodes.TELL:
                    return wrongIf(nodes.secret(i - 1), 7, i);
                case Nodes.THEN:
                    nodes.keepSecret(i, nodes.secret(i - 1));
                    hidden += nodes.secret(i) ? 1 : 0;
                    return 0;
                case Nodes.END_IF:
                    hidden -= nodes.secret(nodes.value(i)) ? 1 : 0;
                    return 0;
                case Nodes.NAME:
                    return lookAtName(i);
                case Nodes.ROW:
                    return lookAtRow(i);
                case Nodes.ITEM:
                    return lookAtItem(i);
                case Nodes.NEGATE:
                case '~':
                case '!':
                    nodes.keepSecret(i, nodes.secret(i - 1));
                    return 0;
                default:
                    return Nodes.level(nodes.kind(i)) == NONE ? 0 : lookAtPair(i);
            }
        }

        private int wrong(int number, int place) {
            where = place;
            return number;
        }

        private int wrongIf(boolean isWrong, int number, int i) {
            return isWrong ? wrong(number, nodes.place(i)) : 0;
        }

        private int lookAtDeclaration(int i) {
            int place = nodes.place(i);
            if (names.find(place) != NONE) {
                return wrong(1, place);
            }
            int length = 0;
            if (nodes.kind(i + 1) == Nodes.LENGTH) {
                length = nodes.value(i + 1);
                if (length < 1 || length > LONGEST_ROW) {
                    return wrong(2, nodes.place(i + 1));
                }
            }
            return wrongIf(!names.declare(place, length, nodes.value(i)), 2, i);
        }

        private int lookAtTarget(int i) {
            int name = names.find(nodes.place(i));
            if (name == NONE) {
                return wrong(1, nodes.place(i));
            }
            nodes.keepValue(i, name);
            if (hidden > 0 && (names.isRow(name) || !names.secret(name))) {
                return wrong(8, nodes.place(i));
            }
            return wrongIf(names.isRow(name) != (nodes.kind(i) == Nodes.TARGET_ROW), 3, i);
        }

        private int lookAtName(int i) {
            int name = names.find(nodes.place(i));
            if (name == NONE) {
                return wrong(1, nodes.place(i));
            }
            nodes.keepValue(i, name);
            nodes.keepSecret(i, names.secret(name));
            return wrongIf(names.isRow(name), 3, i);
        }

        private int lookAtRow(int i) {
            int bracket = nodes.value(i);
            int name = names.find(nodes.place(i));
            if (name == NONE) {
                return wrong(1, nodes.place(i));
            }
            nodes.keepValue(i, name);
            if (hidden > 0) {
                return wrong(8, bracket);
            }
            return wrongIf(!names.isRow(name), 3, i);
        }

        private int lookAtItem(int i) {
            int name = nodes.value(nodes.value(i));
            nodes.keepValue(i, name);
            nodes.keepSecret(i, names.secret(name));
            return wrongIf(nodes.secret(i - 1), 4, i);
        }

        private int lookAtPair(int i) {
            boolean secret = nodes.secret(i - 1) || nodes.secret(nodes.left(i));
            nodes.keepSecret(i, secret);
            boolean divides = nodes.kind(i) == '/' || nodes.kind(i) == '%';
            if (divides && hidden > 0) {
                return wrong(8, nodes.place(i));
            }
            return wrongIf(divides && secret, 5, i);
        }
    }

    /** The machine: memory, registers, cache, cycles and trail. */
    private static final class Machine {
        static final int BYTES = 16384;
        static final int REGISTERS = 32;

        private static final int WORDS = BYTES / 4;
        private static final int LINES = 32;
        private static final int AT_CALL = 1;
        private static final int AT_OTHER_WORD = 2;
        private static final int AT_NO_PLACE = 3;
        private static final int CALL = 115;
        private static final int FOR_MISS = 20;
        private static final int FOR_PRODUCT = 3;
        private static final int FOR_DIVISION = 32;
        private static final long FACTOR = 6364136223846793005L;
        private static final long UNSIGNED = 0xFFFFFFFFL;

        private final int[] memory = new int[WORDS];
        private final int[] registers = new int[REGISTERS];
        /** Of each set the line used last, then the other one; a line's number and 1, or 0. */
        private final int[] lines = new int[LINES];
        private int place;
        private int orders;
        private long cycles;
        private int misses;
        private long events;

        int place() {
            return place;
        }

        int ordersDone() {
            return orders;
        }

        long cycles() {
            return cycles;
        }

        int misses() {
            return misses;
        }

        long events() {
            return events;
        }

        static boolean isPlace(int where) {
            return where >= 0 && where < BYTES && (where & 3) == 0;
        }

        boolean store(int where, int v) {
            if (!isPlace(where)) {
                return false;
            }
            memory[where >> 2] = v;
            return true;
        }

        int fetch(int where) {
            return isPlace(where) ? memory[where >> 2] : 0;
        }

        boolean fill(int register, int v) {
            if (register < 0 || register >= REGISTERS) {
                return false;
            }
            if (register != 0) {
                registers[register] = v;
            }
            return true;
        }

        int register(int register) {
            return register < 0 || register >= REGISTERS ? 0 : registers[register];
        }

        boolean beginAt(int where) {
            if (!isPlace(where)) {
                return false;
            }
            place = where;
            orders = 0;
            cycles = 0;
            misses = 0;
            events = 0;
            Arrays.fill(lines, 0);
            return true;
        }

        /** Empties the words before a place, and the registers. */
        void wipe(int before) {
            for (int i = 0; i < before >> 2 && i < WORDS; i++) {
                memory[i] = 0;
            }
            Arrays.fill(registers, 0);
        }

        /** Does so many orders: 0, or why it stopped before. */
        int work(int most) {
            for (int i = 0; i < most; i++) {
                int stop = doOrder();
                if (stop != 0) {
                    return stop;
                }
            }
            return 0;
        }

        private int doOrder() {
            if (!isPlace(place)) {
                return AT_NO_PLACE;
            }
            int order = memory[place >> 2];
            switch (order & 127) {
                case 0x37:
                    begin();
                    return pass(order, order & -4096);
                case 0x17:
                    begin();
                    return pass(order, place + (order & -4096));
                case 0x6F:
                    begin();
                    return jump(order, place + jumpDistance(order));
                case 0x67:
                    return doJumpByRegister(order);
                case 0x63:
                    return doBranch(order);
                case 0x03:
                    return doLoad(order);
                case 0x23:
                    return doStore(order);
                case 0x13:
                    return doWithNumber(order);
                case 0x33:
                    return doWithRegisters(order);
                default:
                    return order == CALL ? AT_CALL : AT_OTHER_WORD;
            }
        }

        private void begin() {
            orders++;
            cycles++;
            reach(place);
        }

        /** An access of the cache, and an event. */
        private void reach(int where) {
            int line = where >> 4;
            int last = (line & 15) * 2;
            if (lines[last] != line + 1) {
                if (lines[last + 1] != line + 1) {
                    misses++;
                    cycles += FOR_MISS;
                }
                lines[last + 1] = lines[last];
                lines[last] = line + 1;
            }
            note(where);
        }

        private void note(int event) {
            events = events * FACTOR + event + 1;
        }

        private int pass(int order, int result) {
            fill(order >> 7 & 31, result);
            place += 4;
            return 0;
        }

        private int jump(int order, int goal) {
            fill(order >> 7 & 31, place + 4);
            cycles++;
            place = goal;
            return 0;
        }

        private static int third(int order) {
            return order >> 12 & 7;
        }

        private int left(int order) {
            return registers[order >> 15 & 31];
        }

        private int right(int order) {
            return registers[order >> 20 & 31];
        }

        private static int jumpDistance(int order) {
            return (order >> 31 << 20) | (order & 0xFF000) | (order >> 9 & 0x800) | (order >> 20 & 0x7FE);
        }

        private static int branchDistance(int order) {
            return (order >> 31 << 12) | (order << 4 & 0x800) | (order >> 20 & 0x7E0) | (order >> 7 & 0x1E);
        }

        private static int storeDistance(int order) {
            return (order >> 25 << 5) | (order >> 7 & 31);
        }

        private int doJumpByRegister(int order) {
            if (third(order) != 0) {
                return AT_OTHER_WORD;
            }
            begin();
            return jump(order, (left(order) + (order >> 20)) & -2);
        }

        private int doBranch(int order) {
            int kind = third(order);
            if (kind == 2 || kind == 3) {
                return AT_OTHER_WORD;
            }
            begin();
            if (holds(kind, left(order), right(order))) {
                cycles++;
                place += branchDistance(order);
            } else {
                place += 4;
            }
            return 0;
        }

        private static boolean holds(int kind, int a, int b) {
            switch (kind) {
                case 0:
                    return a == b;
                case 1:
                    return a != b;
                case 4:
                    return a < b;
                case 5:
                    return a >= b;
                case 6:
                    return (a & UNSIGNED) < (b & UNSIGNED);
                default:
                    return (a & UNSIGNED) >= (b & UNSIGNED);
            }
        }

        private int doLoad(int order) {
            if (third(order) != 2) {
                return AT_OTHER_WORD;
            }
            int where = left(order) + (order >> 20);
            if (!isPlace(where)) {
                return AT_NO_PLACE;
            }
            begin();
            reach(where);
            return pass(order, memory[where >> 2]);
        }

        private int doStore(int order) {
            if (third(order) != 2) {
                return AT_OTHER_WORD;
            }
            int where = left(order) + storeDistance(order);
            if (!isPlace(where)) {
                return AT_NO_PLACE;
            }
            begin();
            reach(where);
            memory[where >> 2] = right(order);
            place += 4;
            return 0;
        }

        private int doWithNumber(int order) {
            int kind = third(order);
            int upper = order >>> 25;
            int number = order >> 20;
            boolean backwards = kind == 5 && upper == 0x20;
            if ((kind == 1 || kind == 5) && upper != 0 && !backwards) {
                return AT_OTHER_WORD;
            }
            begin();
            return pass(order, backwards ? left(order) >> (number & 31) : join(kind, left(order), number));
        }

        private int doWithRegisters(int order) {
            int kind = third(order);
            int a = left(order);
            int b = right(order);
            switch (order >>> 25) {
                case 0:
                    begin();
                    return pass(order, join(kind, a, b));
                case 1:
                    begin();
                    return pass(order, kind < 4 ? product(kind, a, b) : division(kind, a, b));
                case 0x20:
                    if (kind != 0 && kind != 5) {
                        return AT_OTHER_WORD;
                    }
                    begin();
                    return pass(order, kind == 0 ? a - b : a >> (b & 31));
                default:
                    return AT_OTHER_WORD;
            }
        }

        private static int join(int kind, int a, int b) {
            switch (kind) {
                case 0:
                    return a + b;
                case 1:
                    return a << (b & 31);
                case 2:
                    return a < b ? 1 : 0;
                case 3:
                    return (a & UNSIGNED) < (b & UNSIGNED) ? 1 : 0;
                case 4:
                    return a ^ b;
                case 5:
                    return a >>> (b & 31);
                case 6:
                    return a | b;
                default:
                    return a & b;
            }
        }

        private int product(int kind, int a, int b) {
            cycles += FOR_PRODUCT;
            switch (kind) {
                case 0:
                    return a * b;
                case 1:
                    return (int) ((long) a * b >> 32);
                case 2:
                    return (int) (a * (b & UNSIGNED) >> 32);
                default:
                    return (int) ((a & UNSIGNED) * (b & UNSIGNED) >>> 32);
            }
        }

        private int division(int kind, int a, int b) {
            cycles += FOR_DIVISION;
            note(a);
            note(b);
            boolean whole = kind == 4 || kind == 5;
            if (b == 0) {
                return whole ? -1 : a;
            }
            // In 64 bits the least by -1 needs no care of its own.
            boolean signed = kind == 4 || kind == 6;
            long left = signed ? a : a & UNSIGNED;
            long right = signed ? b : b & UNSIGNED;
            if (right == 0) {
                return 0;
            }
            return (int) (whole ? left / right : left % right);
        }
    }

    /**
     * Turns a right program into orders of the machine on which it runs. No secret reaches a
     * branch, a place or a division: an if with a secret EXPR goes through both of its BLOCKs
     * and keeps by a mask what was put in the one that counts.
     *
     * Each byte of a program comes to at most one order (but for rows with names of one letter),
     * so that 3000 bytes fit behind the words: what is needed often is called and not repeated,
     * and of two parts the one that needs more registers comes first, so none runs out.
     */
    private static final class Coder {
        static final int WORDS = 0;
        static final int TOLD = 800;
        static final int TOLD_BYTES = 400;
        static final int CODE = 2048;
        static final int STEPS_LEFT = 2;
        static final int TOLD_SO_FAR = 4;
        static final int END = 5;
        static final int BACK = 1;

        private static final int HELD = TOLD + TOLD_BYTES;
        private static final int MASK = 3;
        private static final int SPARE = 5;
        private static final int RESULT = 6;
        private static final int OTHER = 7;
        private static final int ROW_BYTES = 20;
        /** Fifteen EXPRs can lie in one another, each with seven operators of which the left part waits. */
        private static final int DEEPEST = 120;

        private final Nodes nodes;
        private final Names names;
        private final Machine machine;
        private final int[] rows = new int[Names.MOST_WORDS];
        private int at;
        private int stepCall;
        private int keepCall;
        private int tellCall;
        private int itemCalls;
        private int placeCalls;
        private int held;
        private int hidden;

        Coder(Nodes nodes, Names names, Machine machine) {
            this.nodes = nodes;
            this.names = names;
            this.machine = machine;
        }

        void write() {
            machine.wipe(Machine.BYTES);
            at = CODE;
            held = 0;
            hidden = 0;
            emit(Orders.add(MASK, 0, -1));
            int toProgram = at;
            emit(0);
            writeCalls();
            writeRowCalls();
            closeJump(toProgram);
            for (int i = 0; i < nodes.size(); i++) {
                writeNode(i);
            }
            writeEnd(0);
        }

        private void emit(int order) {
            if (machine.store(at, order)) {
                at += 4;
            }
        }

        private void closeJump(int from) {
            machine.store(from, Orders.jump(0, at - from));
        }

        private void writeEnd(int end) {
            emit(Orders.add(END, 0, end));
            emit(Orders.call());
        }

        private void comeBack() {
            emit(Orders.jumpByRegister(0, BACK));
        }

        /** What a node calls can end the run; BACK then tells which node it was. */
        private void callFor(int i, int what) {
            emit(Orders.jump(BACK, what - at));
            nodes.keepBack(i, at);
        }

        private void writeCalls() {
            stepCall = at;
            emit(Orders.branchIfEqual(STEPS_LEFT, 0, 12));
            emit(Orders.add(STEPS_LEFT, STEPS_LEFT, -1));
            comeBack();
            writeEnd(2);
            keepCall = at;
            emit(Orders.join('^', RESULT, RESULT, OTHER));
            emit(Orders.join('&', RESULT, RESULT, MASK));
            emit(Orders.join('^', RESULT, RESULT, OTHER));
            comeBack();
            tellCall = at;
            emit(Orders.add(SPARE, 0, TOLD_BYTES));
            emit(Orders.branchIfEqual(TOLD_SO_FAR, SPARE, 16));
            emit(Orders.toMemory(RESULT, TOLD_SO_FAR, TOLD));
            emit(Orders.add(TOLD_SO_FAR, TOLD_SO_FAR, 4));
            comeBack();
            writeEnd(3);
        }

        /** The end by an index lies between both kinds, as a branch from 200 rows reaches no farther. */
        private void writeRowCalls() {
            int before = 0;
            for (int name = 0; name < names.size() && name < rows.length; name++) {
                rows[name] = before;
                before += names.isRow(name) ? 1 : 0;
            }
            itemCalls = at;
            int indexEnd = at + before * ROW_BYTES;
            for (int name = 0; name < names.size(); name++) {
                writeRowCall(name, indexEnd, Orders.fromMemory(RESULT, RESULT, wordPlace(name)));
            }
            writeEnd(1);
            placeCalls = at;
            for (int name = 0; name < names.size(); name++) {
                writeRowCall(name, indexEnd, Orders.add(RESULT, RESULT, wordPlace(name)));
            }
        }

        private void writeRowCall(int name, int indexEnd, int lastOrder) {
            if (names.isRow(name)) {
                emit(Orders.isBelow(SPARE, RESULT, names.length(name)));
                emit(Orders.branchIfEqual(SPARE, 0, indexEnd - at));
                emit(Orders.shiftLeft(RESULT, RESULT, 2));
                emit(lastOrder);
                comeBack();
            }
        }

        private int rowCall(int calls, int name) {
            return name < 0 || name >= rows.length ? calls : calls + rows[name] * ROW_BYTES;
        }

        private int wordPlace(int name) {
            return WORDS + names.firstWord(name) * 4;
        }

        private void hold(int register) {
            emit(Orders.toMemory(register, 0, HELD + held * 4));
            held++;
        }

        private void lookAtHeld(int register) {
            emit(Orders.fromMemory(register, 0, HELD + (held - 1) * 4));
        }

        private void release(int register) {
            held--;
            emit(Orders.fromMemory(register, 0, HELD + held * 4));
        }

        private void writeNode(int i) {
            switch (nodes.kind(i)) {
                case Nodes.TARGET:
                case Nodes.TARGET_ROW:
                case Nodes.IF:
                case Nodes.WHILE:
                case Nodes.LOOK:
                case Nodes.OUT:
                    writeStep(i);
                    break;
                case Nodes.INDEX:
                    writeValue(i - 1, 0, 0);
                    callFor(i, rowCall(placeCalls, nodes.value(nodes.value(i))));
                    hold(RESULT);
                    break;
                case Nodes.PUT:
                    writeValue(i - 1, 0, 0);
                    writePut(nodes.value(i));
                    break;
                case Nodes.TELL:
                    writeValue(i - 1, 0, 0);
                    callFor(i, tellCall);
                    break;
                case Nodes.DO:
                    writeValue(i - 1, 0, 0);
                    writeOpenJump(i);
                    break;
                case Nodes.END_WHILE:
                    writeEndOfWhile(nodes.value(i));
                    break;
                case Nodes.THEN:
                    writeValue(i - 1, 0, 0);
                    writeThen(i);
                    break;
                case Nodes.ELSE:
                    writeElse(i, nodes.value(i));
                    break;
                case Nodes.END_IF:
                    writeEndOfIf(nodes.value(i));
                    break;
                default:
                    // Parts of an EXPR are written with its whole.
                    break;
            }
        }

        private void writeStep(int i) {
            if (hidden == 0) {
                callFor(i, stepCall);
            }
        }

        private void writePut(int target) {
            if (nodes.kind(target) == Nodes.TARGET_ROW) {
                release(OTHER);
                emit(Orders.toMemory(RESULT, OTHER, 0));
                return;
            }
            int place = wordPlace(nodes.value(target));
            if (hidden > 0) {
                emit(Orders.fromMemory(OTHER, 0, place));
                emit(Orders.jump(BACK, keepCall - at));
            }
            emit(Orders.toMemory(RESULT, 0, place));
        }

        /** A jump that is passed over when the result is not 0; its goal is not known yet. */
        private void writeOpenJump(int i) {
            emit(Orders.branchIfNotEqual(RESULT, 0, 8));
            nodes.keepTie(i, at);
            emit(0);
        }

        private void writeThen(int i) {
            if (!nodes.secret(i)) {
                writeOpenJump(i);
                return;
            }
            hidden++;
            hold(MASK);
            emit(Orders.isBelow(RESULT, RESULT, 1));
            emit(Orders.add(RESULT, RESULT, -1));
            emit(Orders.join('&', MASK, MASK, RESULT));
        }

        private void writeElse(int i, int then) {
            if (nodes.secret(then)) {
                lookAtHeld(SPARE);
                emit(Orders.join('^', MASK, MASK, SPARE));
                return;
            }
            nodes.keepTie(i, at);
            emit(0);
            closeJump(nodes.tie(then));
        }

        private void writeEndOfIf(int then) {
            if (nodes.secret(then)) {
                release(MASK);
                hidden--;
                return;
            }
            int otherwise = nodes.value(then);
            closeJump(nodes.tie(otherwise == NONE ? then : otherwise));
        }

        private void writeEndOfWhile(int body) {
            int look = nodes.back(nodes.value(body)) - 4;
            emit(Orders.jump(0, look - at));
            closeJump(nodes.tie(body));
        }

        /**
         * Writes what leaves the value of a node in a register. What looks at an index comes
         * first and so is always in RESULT, where its call wants it; if both parts do, the left
         * one is held in memory, as their order can be seen.
         */
        private void writeValue(int node, int register, int depth) {
            if (depth > DEEPEST) {
                return;
            }
            int part = node;
            int free = register;
            for (int i = 0; i < nodes.size() && !isLeaf(part); i++) {
                int inner = isPair(part) ? nodes.left(part) : part - 1;
                nodes.keepTie(inner, part);
                if (rightFirst(part)) {
                    writeValue(part - 1, free, depth + 1);
                    free++;
                }
                part = inner;
            }
            writeLeaf(part, free);
            for (int i = 0; i < nodes.size() && part != node; i++) {
                part = nodes.tie(part);
                if (nodes.kind(part) == Nodes.ITEM) {
                    callFor(part, rowCall(itemCalls, nodes.value(part)));
                } else if (!isPair(part)) {
                    writeUnary(part, register(free));
                } else if (rightFirst(part)) {
                    free--;
                    writePair(part, free, free + 1, free);
                } else if (nodes.calls(part - 1)) {
                    hold(RESULT);
                    writeValue(part - 1, 0, depth + 1);
                    release(OTHER);
                    writePair(part, 0, 1, 0);
                } else {
                    writeValue(part - 1, free + 1, depth + 1);
                    writePair(part, free, free, free + 1);
                }
            }
        }

        private boolean isLeaf(int i) {
            int kind = nodes.kind(i);
            return kind == Nodes.NUMBER || kind == Nodes.NAME || kind == Nodes.NOTHING;
        }

        private boolean isPair(int i) {
            return Nodes.level(nodes.kind(i)) != NONE;
        }

        private boolean rightFirst(int i) {
            if (!isPair(i)) {
                return false;
            }
            int left = nodes.left(i);
            int right = i - 1;
            if (nodes.calls(left) || nodes.calls(right)) {
                return !nodes.calls(left);
            }
            return nodes.need(right) > nodes.need(left);
        }

        private static int register(int number) {
            return Math.min(RESULT + number, Machine.REGISTERS - 1);
        }

        private void writeLeaf(int i, int to) {
            if (nodes.kind(i) == Nodes.NAME) {
                emit(Orders.fromMemory(register(to), 0, wordPlace(nodes.value(i))));
                return;
            }
            int number = nodes.value(i);
            int low = number << 20 >> 20;
            if (low == number) {
                emit(Orders.add(register(to), 0, number));
                return;
            }
            emit(Orders.upper(register(to), number - low));
            emit(Orders.add(register(to), register(to), low));
        }

        private void writeUnary(int i, int to) {
            switch (nodes.kind(i)) {
                case Nodes.NEGATE:
                    emit(Orders.join('-', to, 0, to));
                    break;
                case '~':
                    emit(Orders.turn(to, to, -1));
                    break;
                default:
                    emit(Orders.isBelow(to, to, 1));
                    break;
            }
        }

        private void writePair(int i, int to, int left, int right) {
            int kind = nodes.kind(i);
            int result = register(to);
            switch (kind) {
                case Tokens.EQUAL:
                    emit(Orders.join('^', result, register(left), register(right)));
                    emit(Orders.isBelow(result, result, 1));
                    break;
                case Tokens.LESS_OR_EQUAL:
                    emit(Orders.join('<', result, register(right), register(left)));
                    emit(Orders.turn(result, result, 1));
                    break;
                default:
                    emit(Orders.join(kind, result, register(left), register(right)));
                    break;
            }
        }
    }

    /** The words of single orders. */
    private static final class Orders {
        static int call() {
            return 115;
        }

        static int upper(int to, int number) {
            return number & -4096 | to << 7 | 0x37;
        }

        static int add(int to, int from, int number) {
            return withNumber(0, to, from, number);
        }

        static int shiftLeft(int to, int from, int number) {
            return withNumber(1, to, from, number);
        }

        /** 1 when it is less as a number without a sign, else 0. */
        static int isBelow(int to, int from, int number) {
            return withNumber(3, to, from, number);
        }

        static int turn(int to, int from, int number) {
            return withNumber(4, to, from, number);
        }

        private static int withNumber(int kind, int to, int from, int number) {
            return number << 20 | from << 15 | kind << 12 | to << 7 | 0x13;
        }

        static int fromMemory(int to, int base, int distance) {
            return distance << 20 | base << 15 | 2 << 12 | to << 7 | 0x03;
        }

        static int toMemory(int from, int base, int distance) {
            return distance >> 5 << 25 | from << 20 | base << 15 | 2 << 12 | (distance & 31) << 7 | 0x23;
        }

        static int jump(int link, int distance) {
            int folded = (distance >> 20 & 1) << 31 | (distance >> 1 & 0x3FF) << 21
                | (distance >> 11 & 1) << 20 | (distance >> 12 & 0xFF) << 12;
            return folded | link << 7 | 0x6F;
        }

        static int jumpByRegister(int link, int base) {
            return base << 15 | link << 7 | 0x67;
        }

        static int branchIfEqual(int left, int right, int distance) {
            return branch(0, left, right, distance);
        }

        static int branchIfNotEqual(int left, int right, int distance) {
            return branch(1, left, right, distance);
        }

        private static int branch(int kind, int left, int right, int distance) {
            int folded = (distance >> 12 & 1) << 31 | (distance >> 5 & 0x3F) << 25
                | (distance >> 1 & 15) << 8 | (distance >> 11 & 1) << 7;
            return folded | right << 20 | left << 15 | kind << 12 | 0x63;
        }

        /** The order for an operator of the language that is one order. */
        static int join(int operator, int to, int left, int right) {
            switch (operator) {
                case '-':
                    return withRegisters(0x20, 0, to, left, right);
                case '*':
                    return withRegisters(1, 0, to, left, right);
                case '/':
                    return withRegisters(1, 4, to, left, right);
                case '%':
                    return withRegisters(1, 6, to, left, right);
                case '&':
                    return withRegisters(0, 7, to, left, right);
                case '|':
                    return withRegisters(0, 6, to, left, right);
                case '^':
                    return withRegisters(0, 4, to, left, right);
                case '<':
                    return withRegisters(0, 2, to, left, right);
                case Tokens.SHIFT_LEFT:
                    return withRegisters(0, 1, to, left, right);
                case Tokens.SHIFT_RIGHT:
                    return withRegisters(0x20, 5, to, left, right);
                default:
                    return withRegisters(0, 0, to, left, right);
            }
        }

        private static int withRegisters(int upper, int kind, int to, int left, int right) {
            return upper << 25 | right << 20 | left << 15 | kind << 12 | to << 7 | 0x33;
        }
    }

    /** The program at work: its inputs, and what its latest runs left. */
    private static final class Work {
        /** Far above what any run can need: 2000 steps of at most some 4000 orders and their calls. */
        private static final int ENOUGH_ORDERS = 100_000_000;

        private final Nodes nodes;
        private final Names names;
        private final Machine machine;
        private final int[] given = new int[Names.MOST_WORDS];
        private Past latest = new Past();
        private Past earlier = new Past();
        private int runs;
        private int endPlace;
        private int stepsDone;
        private int tellings;

        Work(Nodes nodes, Names names, Machine machine) {
            this.nodes = nodes;
            this.names = names;
            this.machine = machine;
        }

        void clear() {
            Arrays.fill(given, 0);
            runs = 0;
            endPlace = NONE;
            stepsDone = 0;
            tellings = 0;
        }

        boolean hasRun() {
            return runs > 0;
        }

        int endPlace() {
            return endPlace;
        }

        int stepsDone() {
            return stepsDone;
        }

        int tellings() {
            return tellings;
        }

        boolean give(int k, int v) {
            if (!names.hasInput(k) || k >= given.length) {
                return false;
            }
            given[k] = v;
            return true;
        }

        int perform(int steps) {
            machine.wipe(Coder.CODE);
            for (int k = 0; k < names.inputs() && k < given.length; k++) {
                machine.store(Coder.WORDS + names.inputWord(k) * 4, given[k]);
            }
            machine.fill(Coder.STEPS_LEFT, steps);
            machine.beginAt(Coder.CODE);
            machine.work(ENOUGH_ORDERS);
            int end = machine.register(Coder.END);
            endPlace = end == 0 ? NONE : nodes.placeOfBack(machine.register(Coder.BACK));
            stepsDone = steps - machine.register(Coder.STEPS_LEFT);
            tellings = machine.register(Coder.TOLD_SO_FAR) / 4;
            remember(steps);
            return end;
        }

        private void remember(int steps) {
            Past oldest = earlier;
            earlier = latest;
            latest = oldest;
            latest.begin(steps);
            for (int k = 0; k < names.inputs() && k < given.length; k++) {
                if (!names.inputSecret(k)) {
                    latest.addPublic(given[k]);
                }
            }
            latest.finish(machine.events(), machine.cycles());
            runs = Math.min(runs + 1, 2);
        }

        int telling(int i) {
            return hasRun() && i >= 0 && i < tellings ? machine.fetch(Coder.TOLD + i * 4) : 0;
        }

        int wordLeft(int k) {
            return hasRun() && k >= 0 && k < names.words() ? machine.fetch(Coder.WORDS + k * 4) : 0;
        }

        boolean lastTwoAlike() {
            return runs < 2 || !latest.sameFrom(earlier) || latest.sameSeen(earlier);
        }
    }

    /** What could be seen of one run from without. */
    private static final class Past {
        private final int[] publics = new int[Names.MOST_WORDS];
        private int used;
        private int steps;
        private long events;
        private long cycles;

        void begin(int givenSteps) {
            used = 0;
            steps = givenSteps;
        }

        void addPublic(int v) {
            if (used < publics.length) {
                publics[used] = v;
                used++;
            }
        }

        void finish(long allEvents, long allCycles) {
            events = allEvents;
            cycles = allCycles;
        }

        boolean sameFrom(Past other) {
            if (steps != other.steps || used != other.used) {
                return false;
            }
            for (int i = 0; i < used && i < publics.length && i < other.publics.length; i++) {
                if (publics[i] != other.publics[i]) {
                    return false;
                }
            }
            return true;
        }

        boolean sameSeen(Past other) {
            return events == other.events && cycles == other.cycles;
        }
    }
}
