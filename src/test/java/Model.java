import java.util.ArrayList;
import java.util.HashSet;
import java.util.List;
import java.util.Map;
import java.util.Set;
import java.util.TreeMap;
import java.util.regex.Matcher;
import java.util.regex.Pattern;

/**
 * The document read a second time, in another way than the class: the Recognizer tells what is no feature, blocks and
 * statements are cut out of the tokens, expressions are cut at their loosest operator, what goes wrong is an exception,
 * and the drawing is written into lines of characters.
 */
final class Model {
    /** What stands between spaces: numbers, pairs before single characters, and what is no token. */
    private static final Pattern PIECE = Pattern.compile("[0-9]+|==|!=|<=|>=|&&|\\|\\||>>|[^ ]");

    private record Token(String kind, String text, int place) {
        int end() {
            return place + text.length();
        }
    }

    private record Block(String label, List<List<Token>> statements) {
    }

    private record Fault(int number, int place) {
    }

    /** What ends an iteration, or is found by X. */
    private static final class Trouble extends Exception {
        private static final long serialVersionUID = 1;
        private final int kind;
        private final int place;

        Trouble(int kind, int place) {
            this.kind = kind;
            this.place = place;
        }
    }

    /** A rule of a THEN, and how many calls it has had. */
    private static final class Rule {
        private final int place;
        private final long least;
        private final long most;
        private final String callee;
        private final List<Token> argument;
        private final List<Integer> answers = new ArrayList<>();
        private int had;

        Rule(List<Token> claim) {
            place = claim.get(0).place();
            List<String> kinds = kinds(claim);
            int open = kinds.indexOf("(");
            int close = kinds.indexOf(")");
            least = Long.parseLong(claim.get(0).text());
            String bound = claim.get(open - 3).text();
            most = bound.equals("_") ? Long.MAX_VALUE : Long.parseLong(bound);
            callee = kinds.get(open - 1);
            argument = claim.subList(open + 1, close);
            for (int i = close + 1; i < claim.size(); i++) {
                if (kinds.get(i).equals("NUMBER")) {
                    int answer = Integer.parseInt(claim.get(i).text());
                    answers.add(kinds.get(i - 1).equals("-") ? -answer : answer);
                }
            }
        }

        boolean fits(String called, int value) {
            if (!called.equals(callee)) {
                return false;
            }
            String last = argument.get(argument.size() - 1).text();
            boolean same = !last.equals("_") && Integer.parseInt(last) == value;
            return last.equals("_") || same == (argument.size() == 1);
        }

        int answer() {
            had++;
            return answers.isEmpty() ? 0 : answers.get(Math.min(had, answers.size()) - 1);
        }
    }

    /** What came of an iteration. */
    static final class Iteration {
        int status;
        int failedAt = -1;
        boolean second;
        final int[] variables = new int[26];
        final int[] calls = new int[2];
        final TreeMap<Integer, Integer> values = new TreeMap<>();
        final List<StringBuilder> lines = new ArrayList<>();

        private void fail(Trouble trouble) {
            second = status != 0;
            if (status == 0) {
                status = trouble.kind;
                failedAt = trouble.place;
            }
        }
    }

    private final String source;
    private final List<Block> blocks = new ArrayList<>();
    int verdict;
    int place = -1;

    private Iteration iteration;
    private List<Rule> inForce = List.of();
    /** By place: what the O's gave, and the values of the expression that is evaluated. */
    private final Map<Integer, Integer> olds = new TreeMap<>();
    private final TreeMap<Integer, Integer> seen = new TreeMap<>();

    Model(String source) {
        this.source = source;
        List<Token> tokens = tokens();
        int wrong = Recognizer.firstWrong(kinds(tokens));
        if (wrong >= 0) {
            verdict = 1;
            place = wrong < tokens.size() ? tokens.get(wrong).place() : source.length();
            return;
        }
        cutBlocks(tokens);
        for (Fault fault : faults()) {
            if (verdict == 0 || fault.place() < place || fault.place() == place && fault.number() < verdict) {
                verdict = fault.number();
                place = fault.place();
            }
        }
    }

    private List<Token> tokens() {
        List<Token> tokens = new ArrayList<>();
        Matcher matcher = PIECE.matcher(source);
        while (matcher.find()) {
            String text = matcher.group();
            char first = text.charAt(0);
            String kind = text;
            if (Character.isDigit(first)) {
                kind = text.length() <= 4 ? "NUMBER" : "NONE";
            } else if (Character.isLowerCase(first)) {
                kind = "VARIABLE";
            } else if (text.equals("&")) {
                kind = "NONE";
            }
            tokens.add(new Token(kind, text, matcher.start()));
        }
        return tokens;
    }

    private static List<String> kinds(List<Token> tokens) {
        return tokens.stream().map(Token::kind).toList();
    }

    /** A label is the capital before a colon, and a semicolon stands nowhere but between statements. */
    private void cutBlocks(List<Token> tokens) {
        List<Token> statement = null;
        for (int i = 0; i < tokens.size(); i++) {
            String kind = tokens.get(i).kind();
            if (i + 1 < tokens.size() && tokens.get(i + 1).kind().equals(":")) {
                statement = new ArrayList<>();
                blocks.add(new Block(kind, new ArrayList<>(List.of(statement))));
                i++;
            } else if (kind.equals(";")) {
                statement = new ArrayList<>();
                blocks.get(blocks.size() - 1).statements().add(statement);
            } else if (statement != null) {
                statement.add(tokens.get(i));
            }
        }
    }

    private List<Token> header() {
        for (Block block : blocks) {
            if (block.label().equals("D")) {
                return block.statements().get(0).stream().filter(t -> t.kind().equals("VARIABLE")).toList();
            }
        }
        return List.of();
    }

    private List<List<List<Token>>> rows() {
        List<List<List<Token>>> rows = new ArrayList<>();
        for (Block block : blocks) {
            for (int s = 1; block.label().equals("D") && s < block.statements().size(); s++) {
                List<List<Token>> sums = new ArrayList<>(List.of(new ArrayList<>()));
                // A || within a parenthesis is no bar.
                int open = 0;
                for (Token token : block.statements().get(s)) {
                    open += token.kind().equals("(") ? 1 : token.kind().equals(")") ? -1 : 0;
                    if (open == 0 && (token.kind().equals("|") || token.kind().equals("||"))) {
                        sums.add(new ArrayList<>());
                    } else {
                        sums.get(sums.size() - 1).add(token);
                    }
                }
                rows.add(sums);
            }
        }
        return rows;
    }

    private List<Fault> faults() {
        List<Fault> faults = new ArrayList<>();
        Set<String> data = new HashSet<>();
        List<Token> header = header();
        for (int i = 0; i < header.size(); i++) {
            if (!data.add(header.get(i).text())) {
                faults.add(new Fault(3, header.get(i).place()));
            }
            if (i == 4) {
                faults.add(new Fault(4, header.get(i).place()));
            }
        }
        Set<String> known = new HashSet<>(data);
        for (Block block : blocks) {
            for (List<Token> statement : block.statements()) {
                if (block.label().equals("T") && Recognizer.isRule(kinds(statement), 0)) {
                    Rule rule = new Rule(statement);
                    if (rule.most < rule.least) {
                        faults.add(new Fault(5, rule.place));
                    }
                } else if (!block.label().equals("D")) {
                    statementFaults(statement, data, known, faults);
                }
            }
        }
        rowFaults(header, faults);
        return faults;
    }

    private void statementFaults(List<Token> statement, Set<String> data, Set<String> known, List<Fault> faults) {
        boolean assigns = assigns(statement);
        for (Token token : statement.subList(assigns ? 2 : 0, statement.size())) {
            if (token.kind().equals("VARIABLE") && !known.contains(token.text())) {
                faults.add(new Fault(2, token.place()));
            }
        }
        if (assigns) {
            if (data.contains(statement.get(0).text())) {
                faults.add(new Fault(3, statement.get(0).place()));
            }
            known.add(statement.get(0).text());
        }
    }

    private void rowFaults(List<Token> header, List<Fault> faults) {
        List<List<List<Token>>> rows = rows();
        for (int r = 0; r < rows.size(); r++) {
            List<List<Token>> sums = rows.get(r);
            if (sums.size() != header.size() || r == 6) {
                faults.add(new Fault(4, sums.get(0).get(0).place()));
            }
            for (int c = 0; c < sums.size(); c++) {
                Set<String> left = new HashSet<>();
                header.subList(0, Math.min(c, header.size())).forEach(t -> left.add(t.text()));
                for (Token token : sums.get(c)) {
                    if (token.kind().equals("VARIABLE") && !left.contains(token.text())) {
                        faults.add(new Fault(2, token.place()));
                    }
                }
            }
        }
    }

    private static boolean assigns(List<Token> statement) {
        return statement.size() > 1 && statement.get(1).kind().equals("=");
    }

    List<Iteration> run() {
        List<Iteration> all = new ArrayList<>();
        List<List<List<Token>>> rows = rows();
        for (int r = 0; r < Math.max(1, rows.size()); r++) {
            iteration = new Iteration();
            all.add(iteration);
            try {
                for (int c = 0; c < header().size(); c++) {
                    iteration.variables[letter(header().get(c))] = evaluate(rows.get(r).get(c));
                }
            } catch (Trouble trouble) {
                iteration.fail(trouble);
                continue;
            }
            try {
                givenAndParts();
            } catch (Trouble trouble) {
                iteration.fail(trouble);
            }
            inForce = List.of();
            try {
                for (Block block : blocks) {
                    if (block.label().equals("C")) {
                        steps(block);
                    }
                }
            } catch (Trouble trouble) {
                iteration.fail(trouble);
            }
        }
        return all;
    }

    private void givenAndParts() throws Trouble {
        for (int b = 0; b < blocks.size(); b++) {
            switch (blocks.get(b).label()) {
                case "G" -> steps(blocks.get(b));
                case "E" -> {
                    for (List<Token> expression : blocks.get(b).statements()) {
                        hold(expression);
                    }
                }
                case "W" -> whenAndThen(blocks.get(b), blocks.get(b + 1));
                default -> {
                }
            }
        }
    }

    private void steps(Block block) throws Trouble {
        for (List<Token> step : block.statements()) {
            if (assigns(step)) {
                iteration.variables[letter(step.get(0))] = evaluate(step.subList(2, step.size()));
            } else {
                evaluate(step);
            }
        }
    }

    private void whenAndThen(Block when, Block then) throws Trouble {
        List<Rule> rules = new ArrayList<>();
        for (List<Token> claim : then.statements()) {
            if (Recognizer.isRule(kinds(claim), 0)) {
                rules.add(new Rule(claim));
            } else {
                remember(claim);
            }
        }
        Trouble thrown = null;
        inForce = rules;
        try {
            steps(when);
        } catch (Trouble trouble) {
            if (trouble.kind != 3) {
                throw trouble;
            }
            thrown = trouble;
        }
        inForce = List.of();
        boolean expected = then.statements().stream().anyMatch(c -> c.get(0).kind().equals("X"));
        if (thrown != null && !expected) {
            throw thrown;
        }
        for (List<Token> claim : then.statements()) {
            boolean isX = claim.get(claim.size() - 1).kind().equals("X");
            if (isX && (claim.size() == 1) == (thrown == null)) {
                throw new Trouble(1, claim.get(0).place());
            }
            if (!isX && !Recognizer.isRule(kinds(claim), 0)) {
                hold(claim);
            }
        }
        for (Rule rule : rules) {
            if (rule.had < rule.least) {
                throw new Trouble(2, rule.place);
            }
        }
    }

    private void remember(List<Token> claim) throws Trouble {
        for (int i = 0; i < claim.size(); i++) {
            if (claim.get(i).kind().equals("O")) {
                olds.put(claim.get(i).place(), evaluate(claim.subList(i + 2, closing(claim, i + 1))));
            }
        }
    }

    /** Where the parenthesis that opens at an index is closed. */
    private static int closing(List<Token> tokens, int open) {
        int deep = 0;
        for (int i = open; i < tokens.size(); i++) {
            deep += tokens.get(i).kind().equals("(") ? 1 : tokens.get(i).kind().equals(")") ? -1 : 0;
            if (deep == 0) {
                return i;
            }
        }
        throw new IllegalStateException("not closed");
    }

    private void hold(List<Token> expression) throws Trouble {
        seen.clear();
        if (evaluate(expression) == 0) {
            draw(expression);
            throw new Trouble(1, expression.get(0).place());
        }
    }

    private static int letter(Token variable) {
        return variable.text().charAt(0) - 'a';
    }

    private static final List<List<String>> LEVELS = List.of(List.of("||"), List.of("&&"),
        List.of("==", "!=", "<", "<=", ">", ">="), List.of("+", "-"), List.of("*", "/", "%"));

    private int evaluate(List<Token> e) throws Trouble {
        for (List<String> level : LEVELS) {
            int at = lastOperator(e, level);
            if (at >= 0) {
                int left = evaluate(e.subList(0, at));
                String operator = e.get(at).kind();
                boolean decided = operator.equals("||") && left != 0 || operator.equals("&&") && left == 0;
                int right = decided ? left : evaluate(e.subList(at + 1, e.size()));
                return see(e.get(at), operate(e.get(at), left, right));
            }
        }
        return unary(e);
    }

    /** The last operator of a level outside of parentheses; a sign stands behind no operand. */
    private static int lastOperator(List<Token> e, List<String> level) {
        int found = -1;
        int open = 0;
        for (int i = 0; i < e.size(); i++) {
            String kind = e.get(i).kind();
            open += kind.equals("(") ? 1 : kind.equals(")") ? -1 : 0;
            boolean behindOperand = i > 0 && List.of("NUMBER", "VARIABLE", ")").contains(e.get(i - 1).kind());
            if (open == 0 && behindOperand && level.contains(kind)) {
                found = i;
            }
        }
        return found;
    }

    private int unary(List<Token> e) throws Trouble {
        Token first = e.get(0);
        switch (first.kind()) {
            case "NUMBER":
                return Integer.parseInt(first.text());
            case "VARIABLE":
                return see(first, iteration.variables[letter(first)]);
            case "-":
                return see(first, -evaluate(e.subList(1, e.size())));
            case "!":
                return see(first, evaluate(e.subList(1, e.size())) == 0 ? 1 : 0);
            case "O":
                return see(first, olds.get(first.place()));
            case "(":
                return evaluate(e.subList(1, e.size() - 1));
            default:
                return see(first, call(first, evaluate(e.subList(2, e.size() - 1))));
        }
    }

    private int see(Token token, int value) {
        seen.put(token.place(), value);
        return value;
    }

    private int call(Token callee, int value) throws Trouble {
        iteration.calls[callee.kind().equals("M") ? 0 : 1]++;
        List<Rule> fitting = inForce.stream().filter(r -> r.fits(callee.kind(), value)).toList();
        for (Rule rule : fitting) {
            if (rule.had < rule.most) {
                return rule.answer();
            }
        }
        if (!fitting.isEmpty()) {
            throw new Trouble(2, callee.place());
        }
        return 0;
    }

    private static int operate(Token operator, int left, int right) throws Trouble {
        String sign = operator.kind();
        if ((sign.equals("/") || sign.equals("%")) && right == 0) {
            throw new Trouble(3, operator.place());
        }
        return switch (sign) {
            case "||", "&&" -> right != 0 ? 1 : 0;
            case "==" -> left == right ? 1 : 0;
            case "!=" -> left != right ? 1 : 0;
            case "<" -> left < right ? 1 : 0;
            case "<=" -> left <= right ? 1 : 0;
            case ">" -> left > right ? 1 : 0;
            case ">=" -> left >= right ? 1 : 0;
            case "+" -> (int) ((long) left + right);
            case "-" -> (int) ((long) left - right);
            case "*" -> (int) ((long) left * right);
            case "/" -> (int) ((long) left / right);
            default -> (int) ((long) left % right);
        };
    }

    private void draw(List<Token> expression) {
        int start = expression.get(0).place();
        List<StringBuilder> lines = iteration.lines;
        lines.add(new StringBuilder(source.substring(start, expression.get(expression.size() - 1).end())));
        for (Map.Entry<Integer, Integer> value : seen.entrySet()) {
            iteration.values.put(value.getKey() - start, value.getValue());
        }
        for (int column : iteration.values.descendingKeySet()) {
            String text = Integer.toString(iteration.values.get(column));
            write(lines, 1, column, "|");
            int line = 2;
            while (begin(lines, line) <= column + text.length()) {
                write(lines, line, column, "|");
                line++;
            }
            write(lines, line, column, text);
        }
    }

    /** The column of the first character of a line that is no space; one far right when nothing stands there. */
    private static int begin(List<StringBuilder> lines, int line) {
        String text = line < lines.size() ? lines.get(line).toString() : "";
        return text.isBlank() ? 1000 : text.length() - text.stripLeading().length();
    }

    private static void write(List<StringBuilder> lines, int line, int column, String text) {
        while (lines.size() <= line) {
            lines.add(new StringBuilder());
        }
        StringBuilder row = lines.get(line);
        while (row.length() < column + text.length()) {
            row.append(' ');
        }
        row.replace(column, column + text.length(), text);
    }
}
