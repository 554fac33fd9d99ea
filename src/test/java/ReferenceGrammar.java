import java.util.ArrayList;
import java.util.HashMap;
import java.util.HashSet;
import java.util.List;
import java.util.Map;
import java.util.Set;

/**
 * The fault of a text, found in a way of its own: the grammar of the document is written down as
 * rules (one set of them for each depth) and all programs that could go on are followed at once.
 */
final class ReferenceGrammar {
    record Token(String kind, String text, int place) {
    }

    private record Item(int rule, int dot, int origin) {
    }

    private static final Set<String> WORDS = Set.of("pub", "sec", "in", "out", "if", "else", "while");
    private static final List<String> SIGNS = List.of("<=", "==", "<<", ">>", "(", ")", "[", "]", "{", "}", ";", "=",
        "+", "-", "*", "/", "%", "&", "|", "^", "~", "!", "<");
    private static final String[][] LEVELS = {{"|"}, {"^"}, {"&"}, {"==", "<", "<="}, {"<<", ">>"}, {"+", "-"},
        {"*", "/", "%"}};

    private final List<String[]> rules = new ArrayList<>();
    private final Map<String, List<Integer>> byHead = new HashMap<>();

    ReferenceGrammar() {
        rule("PROGRAM DECLARATIONS STATEMENTS@0");
        rule("DECLARATIONS");
        rule("DECLARATIONS DECLARATIONS DECLARATION");
        for (String level : new String[] {"pub", "sec"}) {
            for (String in : new String[] {"", " in"}) {
                rule("DECLARATION " + level + in + " NAME ;");
                rule("DECLARATION " + level + in + " NAME [ NUMBER ] ;");
            }
        }
        for (int d = 0; d <= 31; d++) {
            rulesOfDepth(d);
        }
    }

    private void rulesOfDepth(int d) {
        String expr = "EXPR@" + d;
        String block = "BLOCK@" + d;
        rule("STATEMENTS@" + d);
        rule("STATEMENTS@" + d + " STATEMENTS@" + d + " STATEMENT@" + d);
        rule("STATEMENT@" + d + " NAME = " + expr + " ;");
        rule("STATEMENT@" + d + " NAME [ " + expr + " ] = " + expr + " ;");
        rule("STATEMENT@" + d + " if ( " + expr + " ) " + block);
        rule("STATEMENT@" + d + " if ( " + expr + " ) " + block + " else " + block);
        rule("STATEMENT@" + d + " while ( " + expr + " ) " + block);
        rule("STATEMENT@" + d + " out " + expr + " ;");
        if (d == 31) {
            return;
        }
        rule(block + " { STATEMENTS@" + (d + 1) + " }");
        rule(expr + " PART0@" + d);
        for (int level = 0; level < LEVELS.length; level++) {
            String part = "PART" + level + "@" + d;
            String closer = "PART" + (level + 1) + "@" + d;
            rule(part + " " + closer);
            for (String operator : LEVELS[level]) {
                rule(part + " " + part + " " + operator + " " + closer);
            }
        }
        rule("PART7@" + d + " UNARY@" + (d + 1));
        for (String sign : new String[] {"-", "~", "!"}) {
            rule("UNARY@" + d + " " + sign + " UNARY@" + (d + 1));
        }
        rule("UNARY@" + d + " NUMBER");
        rule("UNARY@" + d + " NAME");
        rule("UNARY@" + d + " NAME [ EXPR@" + (d + 1) + " ]");
        rule("UNARY@" + d + " ( EXPR@" + (d + 1) + " )");
    }

    private void rule(String text) {
        String[] parts = text.split(" ");
        byHead.computeIfAbsent(parts[0], k -> new ArrayList<>()).add(rules.size());
        rules.add(parts);
    }

    private static boolean letter(char c) {
        return "abcdefghijklmnopqrstuvwxyzABCDEFGHIJKLMNOPQRSTUVWXYZ".indexOf(c) >= 0;
    }

    private static boolean digit(char c) {
        return "0123456789".indexOf(c) >= 0;
    }

    /** The tokens; the last one is of the kind "end" or "none". */
    static List<Token> tokens(String text) {
        List<Token> all = new ArrayList<>();
        int place = 0;
        while (true) {
            while (place < text.length() && "\t\n\r ".indexOf(text.charAt(place)) >= 0) {
                place++;
            }
            if (place == text.length()) {
                all.add(new Token("end", "", place));
                return all;
            }
            String token = tokenAt(text, place);
            if (token == null) {
                all.add(new Token("none", "", place));
                return all;
            }
            String kind = token;
            if (letter(token.charAt(0)) && !WORDS.contains(token)) {
                kind = "NAME";
            } else if (digit(token.charAt(0))) {
                kind = "NUMBER";
            }
            all.add(new Token(kind, token, place));
            place += token.length();
        }
    }

    private static String tokenAt(String text, int place) {
        int end = place;
        if (letter(text.charAt(place))) {
            while (end < text.length() && (letter(text.charAt(end)) || digit(text.charAt(end)))) {
                end++;
            }
            return end - place > 10 ? null : text.substring(place, end);
        }
        if (digit(text.charAt(place))) {
            while (end < text.length() && digit(text.charAt(end))) {
                end++;
            }
            String number = text.substring(place, end);
            boolean tooGreat = new java.math.BigInteger(number).bitLength() > 31;
            boolean zeros = number.length() > 1 && number.startsWith("0");
            boolean letterBehind = end < text.length() && letter(text.charAt(end));
            return tooGreat || zeros || letterBehind ? null : number;
        }
        for (String sign : SIGNS) {
            if (text.startsWith(sign, place)) {
                return sign;
            }
        }
        return null;
    }

    /** The place of the fault, or -1. */
    int fault(String text) {
        List<List<Item>> sets = new ArrayList<>();
        List<Item> first = new ArrayList<>();
        first.add(new Item(0, 1, 0));
        sets.add(first);
        for (Token token : tokens(text)) {
            List<Item> now = complete(sets);
            if (token.kind().equals("end")) {
                for (Item item : now) {
                    if (item.rule == 0 && item.dot == rules.get(0).length) {
                        return -1;
                    }
                }
                return token.place();
            }
            List<Item> after = new ArrayList<>();
            for (Item item : now) {
                String[] rule = rules.get(item.rule);
                if (item.dot < rule.length && rule[item.dot].equals(token.kind())) {
                    after.add(new Item(item.rule, item.dot + 1, item.origin));
                }
            }
            if (after.isEmpty()) {
                return token.place();
            }
            sets.add(after);
        }
        throw new IllegalStateException();
    }

    private List<Item> complete(List<List<Item>> sets) {
        int here = sets.size() - 1;
        List<Item> now = sets.get(here);
        Set<Item> known = new HashSet<>(now);
        for (int i = 0; i < now.size(); i++) {
            Item item = now.get(i);
            String[] rule = rules.get(item.rule);
            List<Item> more = new ArrayList<>();
            if (item.dot < rule.length) {
                String wanted = rule[item.dot];
                for (int r : byHead.getOrDefault(wanted, List.of())) {
                    more.add(new Item(r, 1, here));
                    if (rules.get(r).length == 1) {
                        more.add(new Item(item.rule, item.dot + 1, item.origin));
                    }
                }
            } else {
                for (Item open : List.copyOf(sets.get(item.origin))) {
                    String[] waiting = rules.get(open.rule);
                    if (open.dot < waiting.length && waiting[open.dot].equals(rule[0])) {
                        more.add(new Item(open.rule, open.dot + 1, open.origin));
                    }
                }
            }
            for (Item one : more) {
                if (known.add(one)) {
                    now.add(one);
                }
            }
        }
        return now;
    }
}
