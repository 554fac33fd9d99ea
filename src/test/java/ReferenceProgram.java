import java.util.ArrayList;
import java.util.LinkedHashMap;
import java.util.List;
import java.util.Map;

/** A program without a fault, judged and run straight from the words of the document. */
final class ReferenceProgram {
    static final class Wrong extends RuntimeException {
        private static final long serialVersionUID = 1;
        final int number;
        final int place;

        Wrong(int number, int place) {
            super(null, null, false, false);
            this.number = number;
            this.place = place;
        }
    }

    private static final class End extends RuntimeException {
        private static final long serialVersionUID = 1;
        final int how;
        final int place;

        End(int how, int place) {
            super(null, null, false, false);
            this.how = how;
            this.place = place;
        }
    }

    private record Thing(boolean secret, boolean in, int first, int length, boolean row) {
    }

    private record Expr(String op, int number, Thing thing, int place, Expr a, Expr b) {
        boolean secret() {
            return thing != null && thing.secret || a != null && a.secret() || b != null && b.secret();
        }
    }

    private record Stmt(String kind, int place, Thing target, int bracket, Expr index, Expr value, List<Stmt> body,
        List<Stmt> other) {
    }

    private static final List<List<String>> LEVELS = List.of(List.of("|"), List.of("^"), List.of("&"),
        List.of("==", "<", "<="), List.of("<<", ">>"), List.of("+", "-"), List.of("*", "/", "%"));

    private final List<ReferenceGrammar.Token> tokens;
    private int at;
    private final Map<String, Thing> things = new LinkedHashMap<>();
    private final List<Stmt> program;
    final List<Integer> inputWords = new ArrayList<>();
    final List<Boolean> inputSecret = new ArrayList<>();
    int words;

    int[] memory = new int[0];
    int[] inputs;
    final List<Integer> told = new ArrayList<>();
    int steps;
    int limit;
    int endPlace;

    /** Throws Wrong for what is wrong. */
    ReferenceProgram(String text) {
        tokens = ReferenceGrammar.tokens(text);
        while (see("pub") || see("sec")) {
            declaration();
        }
        program = statements(false);
        inputs = new int[inputWords.size()];
    }

    private boolean see(String kind) {
        return tokens.get(at).kind().equals(kind);
    }

    private ReferenceGrammar.Token take(String kind) {
        if (!see(kind)) {
            throw new IllegalStateException("a fault that the grammar did not find: " + tokens.get(at));
        }
        return tokens.get(at++);
    }

    private boolean took(String kind) {
        if (see(kind)) {
            at++;
            return true;
        }
        return false;
    }

    private void declaration() {
        boolean secret = see("sec");
        at++;
        boolean in = took("in");
        ReferenceGrammar.Token name = take("NAME");
        if (things.containsKey(name.text())) {
            throw new Wrong(1, name.place());
        }
        int length = 1;
        boolean row = took("[");
        if (row) {
            ReferenceGrammar.Token number = take("NUMBER");
            length = Integer.parseInt(number.text());
            if (length < 1 || length > 64) {
                throw new Wrong(2, number.place());
            }
            take("]");
        }
        take(";");
        if (words + length > 200) {
            throw new Wrong(2, name.place());
        }
        things.put(name.text(), new Thing(secret, in, words, length, row));
        for (int i = 0; i < length && in; i++) {
            inputWords.add(words + i);
            inputSecret.add(secret);
        }
        words += length;
    }

    private Thing thing(ReferenceGrammar.Token name) {
        Thing thing = things.get(name.text());
        if (thing == null) {
            throw new Wrong(1, name.place());
        }
        return thing;
    }

    private List<Stmt> statements(boolean hidden) {
        List<Stmt> all = new ArrayList<>();
        while (!see("}") && !see("end")) {
            all.add(statement(hidden));
        }
        return all;
    }

    private List<Stmt> block(boolean hidden) {
        take("{");
        List<Stmt> all = statements(hidden);
        take("}");
        return all;
    }

    private Stmt statement(boolean hidden) {
        int place = tokens.get(at).place();
        if (took("if")) {
            take("(");
            Expr e = expr(0, hidden);
            take(")");
            boolean hide = hidden || e.secret();
            List<Stmt> body = block(hide);
            List<Stmt> other = took("else") ? block(hide) : List.of();
            return new Stmt(e.secret() ? "secret if" : "if", place, null, 0, null, e, body, other);
        }
        if (see("while") || see("out")) {
            if (hidden) {
                throw new Wrong(8, place);
            }
            boolean loop = took("while");
            if (!loop) {
                take("out");
            }
            if (loop) {
                take("(");
            }
            Expr e = expr(0, hidden);
            if (e.secret()) {
                throw new Wrong(loop ? 6 : 7, place);
            }
            if (loop) {
                take(")");
                return new Stmt("while", place, null, 0, null, e, block(false), null);
            }
            take(";");
            return new Stmt("out", place, null, 0, null, e, null, null);
        }
        return put(hidden, place);
    }

    private Stmt put(boolean hidden, int place) {
        Thing target = thing(take("NAME"));
        if (hidden && (target.row || !target.secret)) {
            throw new Wrong(8, place);
        }
        if (target.row != see("[")) {
            throw new Wrong(3, place);
        }
        int bracket = tokens.get(at).place();
        Expr index = null;
        if (took("[")) {
            index = expr(0, hidden);
            if (index.secret()) {
                throw new Wrong(4, bracket);
            }
            take("]");
        }
        take("=");
        Expr value = expr(0, hidden);
        if (value.secret() && !target.secret) {
            throw new Wrong(7, place);
        }
        take(";");
        return new Stmt("put", place, target, bracket, index, value, null, null);
    }

    private Expr expr(int level, boolean hidden) {
        if (level == LEVELS.size()) {
            return unary(hidden);
        }
        Expr left = expr(level + 1, hidden);
        while (LEVELS.get(level).contains(tokens.get(at).kind())) {
            ReferenceGrammar.Token sign = tokens.get(at++);
            Expr right = expr(level + 1, hidden);
            if (sign.kind().equals("/") || sign.kind().equals("%")) {
                if (hidden) {
                    throw new Wrong(8, sign.place());
                }
                if (left.secret() || right.secret()) {
                    throw new Wrong(5, sign.place());
                }
            }
            left = new Expr(sign.kind(), 0, null, sign.place(), left, right);
        }
        return left;
    }

    private Expr unary(boolean hidden) {
        ReferenceGrammar.Token token = tokens.get(at++);
        switch (token.kind()) {
            case "-":
            case "~":
            case "!":
                return new Expr("unary " + token.kind(), 0, null, token.place(), unary(hidden), null);
            case "(":
                Expr inner = expr(0, hidden);
                take(")");
                return inner;
            case "NUMBER":
                return new Expr("number", Integer.parseInt(token.text()), null, token.place(), null, null);
            default:
                return name(token, hidden);
        }
    }

    private Expr name(ReferenceGrammar.Token token, boolean hidden) {
        Thing thing = thing(token);
        if (hidden && see("[")) {
            throw new Wrong(8, tokens.get(at).place());
        }
        if (thing.row != see("[")) {
            throw new Wrong(3, token.place());
        }
        if (!thing.row) {
            return new Expr("word", 0, thing, token.place(), null, null);
        }
        int bracket = take("[").place();
        Expr index = expr(0, hidden);
        if (index.secret()) {
            throw new Wrong(4, bracket);
        }
        take("]");
        return new Expr("item", 0, thing, bracket, index, null);
    }

    /** How it ends. */
    int run(int givenSteps) {
        memory = new int[words];
        told.clear();
        steps = 0;
        limit = givenSteps;
        endPlace = -1;
        for (int k = 0; k < inputs.length; k++) {
            memory[inputWords.get(k)] = inputs[k];
        }
        try {
            doAll(program, true);
            return 0;
        } catch (End end) {
            endPlace = end.place;
            return end.how;
        }
    }

    private void step(int place) {
        if (steps == limit) {
            throw new End(2, place);
        }
        steps++;
    }

    private void doAll(List<Stmt> all, boolean counted) {
        for (Stmt s : all) {
            if (counted) {
                step(s.place);
            }
            doOne(s, counted);
        }
    }

    private void doOne(Stmt s, boolean counted) {
        switch (s.kind) {
            case "put":
                int where = s.target.first + (s.index == null ? 0 : index(s.target, value(s.index), s.bracket));
                memory[where] = value(s.value);
                break;
            case "out":
                int v = value(s.value);
                if (told.size() == 100) {
                    throw new End(3, s.place);
                }
                told.add(v);
                break;
            case "while":
                while (true) {
                    step(s.place);
                    if (value(s.value) == 0) {
                        break;
                    }
                    doAll(s.body, counted);
                }
                break;
            default:
                doAll(value(s.value) != 0 ? s.body : s.other, counted && s.kind.equals("if"));
                break;
        }
    }

    private static int index(Thing row, int i, int bracket) {
        if (i < 0 || i >= row.length) {
            throw new End(1, bracket);
        }
        return i;
    }

    private int value(Expr e) {
        switch (e.op) {
            case "number":
                return e.number;
            case "word":
                return memory[e.thing.first];
            case "item":
                return memory[e.thing.first + index(e.thing, value(e.a), e.place)];
            case "unary -":
                return -value(e.a);
            case "unary ~":
                return ~value(e.a);
            case "unary !":
                return value(e.a) == 0 ? 1 : 0;
            default:
                int a = value(e.a);
                return pair(e.op, a, value(e.b));
        }
    }

    private static int pair(String op, int a, int b) {
        switch (op) {
            case "|":
                return a | b;
            case "^":
                return a ^ b;
            case "&":
                return a & b;
            case "==":
                return a == b ? 1 : 0;
            case "<":
                return a < b ? 1 : 0;
            case "<=":
                return a <= b ? 1 : 0;
            case "<<":
                return a << (b & 31);
            case ">>":
                return a >> (b & 31);
            case "+":
                return a + b;
            case "-":
                return a - b;
            case "*":
                return a * b;
            case "/":
                return b == 0 ? -1 : (int) ((long) a / b);
            default:
                return b == 0 ? a : (int) ((long) a % b);
        }
    }
}
