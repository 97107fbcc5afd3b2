import java.util.ArrayList;
import java.util.HashMap;
import java.util.LinkedHashSet;
import java.util.List;
import java.util.Map;
import java.util.Set;

/**
 * The document's grammar, written down as productions and tried all at once (by Earley's method): it tells from which
 * token on a source can't go on to be a feature, without the decisions that the class makes on its way.
 */
final class Recognizer {
    private static final int DEEPEST = 4;
    private static final Map<String, List<String[]>> GRAMMAR = grammar();

    private record Item(String symbol, String[] production, int dot, int from) {
        String next() {
            return dot < production.length ? production[dot] : null;
        }

        Item moved() {
            return new Item(symbol, production, dot + 1, from);
        }

        @Override
        public boolean equals(Object other) {
            return other instanceof Item i && i.production == production && i.dot == dot && i.from == from;
        }

        @Override
        public int hashCode() {
            return System.identityHashCode(production) * 31 * 31 + dot * 31 + from;
        }
    }

    private Recognizer() {
    }

    /** Which token is the first that can't stand there; as many as there are when it is the END, -1 when all can. */
    static int firstWrong(List<String> tokens) {
        List<Set<Item>> sets = new ArrayList<>();
        Set<Item> now = new LinkedHashSet<>();
        for (String[] production : GRAMMAR.get("FEATURE")) {
            now.add(new Item("FEATURE", production, 0, 0));
        }
        for (int i = 0; i <= tokens.size(); i++) {
            sets.add(now);
            complete(sets, tokens, i);
            String token = i < tokens.size() ? tokens.get(i) : "END";
            Set<Item> behind = new LinkedHashSet<>();
            for (Item item : now) {
                if (token.equals(item.next())) {
                    behind.add(item.moved());
                }
            }
            if (behind.isEmpty()) {
                return i;
            }
            now = behind;
        }
        return -1;
    }

    private static void complete(List<Set<Item>> sets, List<String> tokens, int i) {
        List<Item> waiting = new ArrayList<>(sets.get(i));
        for (int w = 0; w < waiting.size(); w++) {
            Item item = waiting.get(w);
            String next = item.next();
            List<Item> more = new ArrayList<>();
            if (next == null) {
                for (Item earlier : sets.get(item.from())) {
                    if (item.symbol().equals(earlier.next())) {
                        more.add(earlier.moved());
                    }
                }
            } else if (next.equals("CLAIM") && isRule(tokens, i)) {
                more.add(new Item("CLAIM", GRAMMAR.get("CLAIM-RULE").get(0), 0, i));
            } else {
                for (String[] production : GRAMMAR.getOrDefault(next, List.of())) {
                    more.add(new Item(next, production, 0, i));
                }
            }
            for (Item found : more) {
                if (sets.get(i).add(found)) {
                    waiting.add(found);
                }
            }
        }
    }

    /** A claim whose first tokens are a number, perhaps - and a number or - and _, then * and M or N, is a rule. */
    static boolean isRule(List<String> tokens, int from) {
        String rest = String.join(" ", tokens.subList(from, Math.min(tokens.size(), from + 5))) + " ";
        return rest.matches("NUMBER (- (NUMBER|_) )?\\* [MN] .*");
    }

    private static Map<String, List<String[]>> grammar() {
        Map<String, List<String[]>> grammar = new HashMap<>();
        for (String given : new String[] {"", "G : STEPS "}) {
            for (String cleanup : new String[] {"", " C : STEPS"}) {
                for (String where : new String[] {"", " D : HEADER ROWS"}) {
                    add(grammar, "FEATURE", given + "PARTS" + cleanup + where + " END");
                }
            }
        }
        add(grammar, "PARTS", "PART", "PARTS PART");
        add(grammar, "PART", "E : EXPRESSIONS", "W : STEPS T : CLAIMS");
        add(grammar, "EXPRESSIONS", "EXPRESSION-0", "EXPRESSIONS ; EXPRESSION-0");
        add(grammar, "STEPS", "STEP", "STEPS ; STEP");
        add(grammar, "STEP", "EXPRESSION-0", "VARIABLE = EXPRESSION-0");
        add(grammar, "CLAIMS", "CLAIM", "CLAIMS ; CLAIM");
        add(grammar, "CLAIM", "X", "! X", "RULE", "EXPRESSION-0+");
        // Productions are told apart by which object they are, and this one is the only one of a claim that is a rule.
        add(grammar, "CLAIM-RULE", "RULE");
        add(grammar, "RULE", "CALLS * CALLEE ( ARGUMENT )", "CALLS * CALLEE ( ARGUMENT ) >> ANSWERS");
        add(grammar, "CALLS", "NUMBER", "NUMBER - NUMBER", "NUMBER - _");
        add(grammar, "CALLEE", "M", "N");
        add(grammar, "ARGUMENT", "NUMBER", "! NUMBER", "_");
        add(grammar, "ANSWERS", "ANSWER", "ANSWERS , ANSWER");
        add(grammar, "ANSWER", "NUMBER", "- NUMBER");
        add(grammar, "HEADER", "VARIABLE", "HEADER BAR VARIABLE");
        add(grammar, "BAR", "|", "||");
        add(grammar, "ROWS", "; ROW", "ROWS ; ROW");
        add(grammar, "ROW", "SUM-0", "ROW BAR SUM-0");
        for (int depth = 0; depth <= DEEPEST; depth++) {
            addExpression(grammar, depth, "");
            addExpression(grammar, depth, "+");
        }
        return grammar;
    }

    /** The + is for expressions in which an O may stand. */
    private static void addExpression(Map<String, List<String[]>> grammar, int depth, String old) {
        String here = "-" + depth + old;
        String inside = "-" + (depth + 1) + old;
        addChain(grammar, "EXPRESSION" + here, "AND" + here, "||");
        addChain(grammar, "AND" + here, "COMPARISON" + here, "&&");
        add(grammar, "COMPARISON" + here, "SUM" + here);
        for (String sign : new String[] {"==", "!=", "<", "<=", ">", ">="}) {
            add(grammar, "COMPARISON" + here, "SUM" + here + " " + sign + " SUM" + here);
        }
        addChain(grammar, "SUM" + here, "PRODUCT" + here, "+", "-");
        addChain(grammar, "PRODUCT" + here, "UNARY" + here, "*", "/", "%");
        add(grammar, "UNARY" + here, "NUMBER", "VARIABLE", "M GROUP" + here, "N GROUP" + here, "GROUP" + here);
        if (!old.isEmpty()) {
            add(grammar, "UNARY" + here, "O GROUP-" + depth);
        }
        if (depth < DEEPEST) {
            add(grammar, "UNARY" + here, "- UNARY" + inside, "! UNARY" + inside);
            add(grammar, "GROUP" + here, "( EXPRESSION" + inside + " )");
        }
    }

    private static void addChain(Map<String, List<String[]>> grammar, String symbol, String part, String... signs) {
        add(grammar, symbol, part);
        for (String sign : signs) {
            add(grammar, symbol, symbol + " " + sign + " " + part);
        }
    }

    private static void add(Map<String, List<String[]>> grammar, String symbol, String... productions) {
        for (String production : productions) {
            grammar.computeIfAbsent(symbol, s -> new ArrayList<>()).add(production.split(" "));
        }
    }
}
