/** The boundary cases of features, blocks and expressions: promises 4 and 5 (judge and place), verdict 1. */
public final class GrammarEdgesTest {
    private static final Probe PROBE = new Probe("GrammarEdgesTest");
    private static final String[] FEATURES = {
        "G : a = 3 ; b = a * 2 ; a - b E : a + b == 9 ; a < b || ! a && M ( b ) >= 1 E : 1 C : a ; b = 2 D : c ; 1 ; M ( 2 )",
        "W : a = M ( 1 ) ; N ( a ) T : 1 - 2 * M ( ! 1 ) >> 1 , - 2 ; 0 - _ * N ( _ ) ; X ; ! X ; O ( a ) == - 1 ; 2 - a",
        "E : 1 W : 1 T : 12 * N ( 34 ) >> - 5 W : 2 T : 3 - 4 * 5 E : ( 1 || 2 ) % 3 D : a | b || c ; 1 | a || b ; ( 1 ) | 2 | 3",
        "E : - ! - ! 1 ; ( ( ( ( 1 ) ) ) ) ; M ( N ( M ( N ( 1 ) ) ) ) C : - M ( ! ( 1 ) ) D : a || b ; - 1 | - 1"
    };

    public static void main(String[] args) {
        whatCanGoOn();
        whatBelongsToNoToken();
        emptySource();
        parts();
        givenAndCleanup();
        steps();
        assignments();
        conditions();
        claims();
        ruleOrExpression();
        leastAndMost();
        answers();
        arguments();
        tables();
        bars();
        comparisons();
        chains();
        sumsAndProducts();
        unaries();
        olds();
        fourDeep();
        fiveDeep();
        depthOfOlds();
        PROBE.finish();
    }

    private static void fine(String source) {
        PROBE.verdict(source, 0, -1);
    }

    private static void wrong(String source, int place) {
        PROBE.verdict(source, 1, place);
    }

    private static void whatCanGoOn() {
        PROBE.sentence("the place is that of the first token (or the first character that belongs to no token) with"
            + " which what stands before it can't go on to be one");
        for (String source : FEATURES) {
            fine(source);
            for (int end = 0; end <= source.length(); end++) {
                if (end == 0 || end == source.length() || source.charAt(end) == ' ') {
                    SpecRunner runner = new SpecRunner();
                    Probe.type(runner, source.substring(0, end));
                    // What a feature begins with can go on to be one, so that nothing but its end may be wrong.
                    boolean asDue = runner.judge() != 1 || runner.place() == end;
                    PROBE.due("the beginning '" + source.substring(0, end) + "'", asDue, true);
                }
            }
        }
        wrong("E:1D:a;+1", 7);
    }

    private static void whatBelongsToNoToken() {
        PROBE.sentence("(or the first character that belongs to no token)");
        for (String source : FEATURES) {
            for (int at = 0; at <= source.length(); at++) {
                boolean between = at == 0 || at == source.length() || source.charAt(at) == ' ';
                for (String none : new String[] {" & ", " 12345 ", " 12345678 ", " &"}) {
                    String changed = source.substring(0, at) + none + source.substring(at);
                    if (between && changed.length() <= 120) {
                        wrong(changed, at + 1);
                    }
                }
            }
        }
    }

    private static void emptySource() {
        PROBE.sentence("Judges the source (an empty one: 1 at 0)");
        wrong("", 0);
        SpecRunner runner = new SpecRunner();
        Probe.type(runner, "E:1");
        runner.clear();
        PROBE.due("judge of a cleared source", runner.judge(), 1);
        PROBE.due("its place", runner.place(), 0);
    }

    private static void parts() {
        PROBE.sentence("one or more PARTS, each an EXPECT, or a WHEN and a THEN");
        wrong("G:1", 3);
        wrong("G:1C:1", 3);
        wrong("G:1D:a;1", 3);
        wrong("C:1", 0);
        wrong("D:a;1", 0);
        wrong("T:1", 0);
        wrong("W:1", 3);
        wrong("W:1E:1", 3);
        wrong("W:1W:1T:1", 3);
        wrong("W:1T:1T:1", 6);
        wrong("E:1T:1", 3);
        fine("E:1");
        fine("W:1T:1");
        fine("E:1".repeat(40));
        fine("W:1T:1".repeat(20));
        fine("E:1W:1T:1".repeat(13));
    }

    private static void givenAndCleanup() {
        PROBE.sentence("perhaps a GIVEN; one or more PARTS, each an EXPECT, or a WHEN and a THEN; perhaps a CLEANUP;"
            + " perhaps a WHERE; and the end");
        fine("G:1E:1C:1D:a;1");
        fine("G:1E:1");
        fine("E:1C:1");
        fine("E:1D:a;1");
        wrong("G:1G:1E:1", 3);
        wrong("E:1G:1", 3);
        wrong("E:1C:1C:1", 6);
        wrong("E:1C:1E:1", 6);
        wrong("E:1D:a;1D:a;1", 8);
        wrong("E:1D:a;1C:1", 8);
        wrong("E:1D:a;1E:1", 8);
        wrong("E:1 1", 4);
        wrong("E:1 a", 4);
        wrong("E:1X", 3);
        wrong("E:1C:1;;", 7);
    }

    private static void steps() {
        PROBE.sentence("STEPS are one or more with ; between them");
        for (String block : new String[] {"G:%E:1", "W:%T:1", "E:1C:%"}) {
            int at = block.indexOf('%');
            int behind = block.length() - 1 - at;
            wrong(block.replace("%", ""), at);
            wrong(block.replace("%", ";1"), at);
            wrong(block.replace("%", "1;"), at + 2);
            wrong(block.replace("%", "1;;1"), at + 2);
            fine(block.replace("%", "1"));
            fine(block.replace("%", "1;a=1"));
            fine(block.replace("%", "1;".repeat((119 - at - behind) / 2) + "1"));
        }
    }

    private static void assignments() {
        PROBE.sentence("A step that begins with a variable and = is of the second kind.");
        fine("G:a=1 E:a");
        fine("G:a=1;a E:a");
        fine("G:a=1;a==1 E:a");
        fine("G:z=1;a=z E:a");
        wrong("G:a=E:1", 4);
        wrong("G:a==E:1", 5);
        wrong("G:a= =1 E:1", 5);
        wrong("G:a=b=1 E:1", 5);
        wrong("G:1=1 E:1", 3);
        wrong("G:-a=1 E:1", 4);
        wrong("G:(a)=1 E:1", 5);
        wrong("G:M(1)=1 E:1", 6);
        wrong("G:a+b=1 E:1", 5);
        wrong("E:a=1", 3);
        wrong("W:1T:a=1", 6);
        wrong("E:1D:a;a=1", 8);
        wrong("G:M(a=1)E:1", 5);
    }

    private static void conditions() {
        PROBE.sentence("EXPECT is E : and EXPRESSIONS with ; between them; THEN is T : and CLAIMS with ; between them.");
        for (String block : new String[] {"E:", "W:1T:"}) {
            wrong(block, block.length());
            wrong(block + ";1", block.length());
            wrong(block + "1;", block.length() + 2);
            wrong(block + "1;;1", block.length() + 2);
            fine(block + "1");
            fine(block + "1;".repeat((119 - block.length()) / 2) + "1");
        }
    }

    private static void claims() {
        PROBE.sentence("A CLAIM is X; or ! X; or a RULE; or an expression.");
        fine("W:1T:X");
        fine("W:1T:!X");
        fine("W:1T:!  X");
        fine("W:1T:X;X;!X");
        fine("W:1T:!1");
        wrong("W:1T:!!X", 7);
        wrong("W:1T:(X)", 6);
        wrong("W:1T:-X", 6);
        wrong("W:1T:XX", 6);
        wrong("W:1T:X&&1", 6);
        wrong("W:1T:!X&&1", 7);
        wrong("W:1T:1&&X", 8);
        wrong("E:X", 2);
        wrong("E:!X", 3);
        wrong("W:X T:1", 2);
        wrong("W:1T:M(X)", 7);
    }

    private static void ruleOrExpression() {
        PROBE.sentence("A claim whose first tokens are a number, perhaps - and a number or - and _, then * and M or N,"
            + " is a rule");
        fine("W:1T:1*M(1)");
        fine("W:1T:1-2*N(1)");
        fine("W:1T:1-_*M(1)");
        wrong("W:1T:1*M(1)==0", 11);
        wrong("W:1T:1*M(1+1)", 10);
        wrong("W:1T:1*M((1))", 9);
        wrong("W:1T:1-2*M(1)==0", 13);
        wrong("W:1T:1-2*M(-1)", 11);
        wrong("W:1T:1-_*M(1)==0", 13);
        wrong("W:1T:1-_", 8);
        wrong("W:1T:1-_/M(1)", 8);
        wrong("W:1T:1-_*1", 9);
        wrong("W:1T:1-_*O(1)", 9);
        wrong("W:1T:1+_*M(1)", 7);
        wrong("W:1T:_*M(1)", 5);
        wrong("W:1T:1*_", 7);
        fine("W:1T:1-2-3*M(1+1)==0");
        fine("W:1T:1*1*M(1+1)==0");
        fine("W:1T:1+2*M(1+1)==0");
        fine("W:1T:1/M(1+1)==0");
        fine("W:1T:1-M(1+1)==0");
        fine("W:1T:-1*M(1+1)==0");
        fine("W:1T:(1)*M(1+1)==0");
        fine("W:1T:1*-M(1+1)==0");
        fine("W:1T:1--2*M(1+1)==0");
        fine("W:1T:1*O(1+1)==0");
        fine("E:1*M(1+1)==0");
        fine("W:1*M(1+1)T:1");
    }

    private static void leastAndMost() {
        PROBE.sentence("the first number is the LEAST, the second one (without one, the first; with _, there is no"
            + " bound) the MOST");
        PROBE.ends("W:M(1)T:1*M(_)", 0, -1);
        PROBE.ends("W:1T:1*M(_)", 2, 5);
        PROBE.ends("W:M(1);M(1)T:1*M(_)", 2, 7);
        PROBE.ends("W:1T:1-2*M(_)", 2, 5);
        PROBE.ends("W:M(1)T:1-2*M(_)", 0, -1);
        PROBE.ends("W:M(1);M(1)T:1-2*M(_)", 0, -1);
        PROBE.ends("W:M(1);M(1);M(1)T:1-2*M(_)", 2, 12);
        PROBE.ends("W:1T:1-_*M(_)", 2, 5);
        PROBE.ends("W:M(1)" + ";M(1)".repeat(20) + "T:1-_*M(_)", 0, -1);
        PROBE.ends("W:1T:0*M(_)", 0, -1);
        PROBE.ends("W:M(1)T:0*M(_)", 2, 2);
        PROBE.ends("W:M(1)T:0-0*M(_)", 2, 2);
        PROBE.ends("W:M(1)T:0-1*M(_)", 0, -1);
        PROBE.ends("W:M(1)" + ";M(1)".repeat(20) + "T:0-9999*M(_)", 0, -1);
        PROBE.ends("W:M(1)T:9999-_*M(_)", 2, 8);
    }

    private static void answers() {
        PROBE.sentence("and perhaps >> and ANSWERS, each a number with a - before it or not, with , between them");
        fine("W:1T:1*M(_)");
        fine("W:1T:1*M(_)>>0");
        fine("W:1T:1*M(_)>>-0,-9999,9999");
        fine("W:1T:1*M(_)>>1" + ",1".repeat(53));
        wrong("W:1T:1*M(_)>>", 13);
        wrong("W:1T:1*M(_)>>;1", 13);
        wrong("W:1T:1*M(_)>>,1", 13);
        wrong("W:1T:1*M(_)>>1,", 15);
        wrong("W:1T:1*M(_)>>1,,1", 15);
        wrong("W:1T:1*M(_)>>-", 14);
        wrong("W:1T:1*M(_)>>--1", 14);
        wrong("W:1T:1*M(_)>>+1", 13);
        wrong("W:1T:1*M(_)>>(1)", 13);
        wrong("W:1T:1*M(_)>>1>>1", 14);
        wrong("W:1T:1*M(_)>>1-1", 14);
        wrong("W:1T:1*M(_)1", 11);
        wrong("W:a=1T:1*M(_)>>a", 15);
    }

    private static void arguments() {
        PROBE.sentence("The argument is a number, ! and a number, or _.");
        fine("W:1T:1*M(0)");
        fine("W:1T:1*M(9999)");
        fine("W:1T:1*M(!0)");
        fine("W:1T:1*M(! 9999)");
        fine("W:1T:1*M(_)");
        wrong("W:1T:1*M()", 9);
        wrong("W:1T:1*M(!)", 10);
        wrong("W:1T:1*M(!_)", 10);
        wrong("W:1T:1*M(!!1)", 10);
        wrong("W:1T:1*M(-1)", 9);
        wrong("W:1T:1*M(__)", 10);
        wrong("W:1T:1*M(1 1)", 11);
        wrong("W:1T:1*M(1,1)", 10);
        wrong("W:1T:1*M(1", 10);
        wrong("W:1T:1*M", 8);
        wrong("W:1T:1*M1", 8);
        wrong("W:a=1T:1*M(a)", 11);
    }

    private static void tables() {
        PROBE.sentence("WHERE is D : a HEADER, and one or more ROWS with a ; before each.");
        wrong("E:1D", 4);
        wrong("E:1D:", 5);
        wrong("E:1D:a", 6);
        wrong("E:1D:a;", 7);
        wrong("E:1D:;1", 5);
        wrong("E:1D:a 1", 7);
        fine("E:1D:a;1");
        fine("E:1D:a;1;1;1;1;1;1");
        wrong("E:1D:a;1;", 9);
        wrong("E:1D:a;;1", 7);
        wrong("E:1D:1;1", 5);
        wrong("E:1D:a+b;1", 6);
        wrong("E:1D:a;1==1", 8);
        wrong("E:1D:a;1&&1", 8);
        wrong("E:1D:a;!X", 8);
        fine("E:1D:a;!1");
        fine("E:1D:a;(1==1)");
    }

    private static void bars() {
        PROBE.sentence("The header is variables (DATA variables) with bars between them, a row SUMS with bars between"
            + " them; a bar is | or ||.");
        fine("E:1D:a|b;1|1");
        fine("E:1D:a||b;1|1");
        fine("E:1D:a|b;1||1");
        fine("E:1D:a||b||c||d;1||2||3||4");
        wrong("E:1D:|a;1", 5);
        wrong("E:1D:a|;1", 7);
        wrong("E:1D:a|", 7);
        wrong("E:1D:a||", 8);
        wrong("E:1D:a|||b;1|1", 8);
        wrong("E:1D:a| |b;1|1", 8);
        wrong("E:1D:a;|1", 7);
        wrong("E:1D:a;1|", 9);
        wrong("E:1D:a|b;1|;1|1", 11);
        PROBE.verdict("E:1D:a;1||0", 4, 7);
        PROBE.verdict("E:1D:a;(1||0)", 0, -1);
    }

    private static void comparisons() {
        PROBE.sentence("COMPARISON: a sum, or two sums with == != < <= > or >= between them.");
        String[] operators = {"==", "!=", "<", "<=", ">", ">="};
        for (String first : operators) {
            fine("E:1" + first + "1");
            fine("E:1+1" + first + "1*1&&1" + first + "1");
            for (String next : operators) {
                wrong("E:1" + first + "1" + next + "1", 4 + first.length());
                fine("E:(1" + first + "1)" + next + "1");
            }
        }
    }

    private static void chains() {
        PROBE.sentence("EXPRESSION: one or more ANDS with || between them. AND: one or more COMPARISONS with && between"
            + " them.");
        for (String operator : new String[] {"||", "&&", "+", "-", "*", "/", "%"}) {
            fine("E:1" + (operator + "1").repeat(117 / (operator.length() + 1)));
            wrong("E:1" + operator, 3 + operator.length());
            if (!operator.equals("-")) {
                wrong("E:" + operator + "1", 2);
                wrong("E:1" + operator + operator + "1", 3 + operator.length());
            }
        }
        wrong("E:()", 3);
        wrong("E:M()", 4);
        wrong("E:-", 3);
        wrong("E:!", 3);
        wrong("E:M", 3);
        wrong("E:N1", 3);
        wrong("E:(1", 4);
        wrong("E:1)", 3);
    }

    private static void sumsAndProducts() {
        PROBE.sentence("SUM: one or more PRODUCTS with + or - between them. PRODUCT: one or more UNARIES with *, / or %"
            + " between them.");
        String[] operators = {"+", "-", "*", "/", "%"};
        for (String first : operators) {
            for (String next : operators) {
                fine("E:1" + first + "1" + next + "1");
                fine("E:1D:a;1" + first + "1" + next + "1");
                if (!next.equals("-")) {
                    wrong("E:1" + first + next + "1", 4);
                }
            }
            wrong("E:1D:a;1" + first, 9);
            wrong("E:(1" + first + ")", 5);
            wrong("E:1" + first + ";1", 4);
        }
    }

    private static void unaries() {
        PROBE.sentence("UNARY: - and a unary, ! and a unary, or an ATOM: a number, a variable, M or N and ( expression"
            + " ), O and ( expression ), or ( expression ).");
        for (String atom : new String[] {"1", "a", "M(1)", "N(1||1)", "(1)", "(1==1)"}) {
            fine("E:" + atom + "D:a;1");
            fine("E:-" + atom + "D:a;1");
            fine("E:!" + atom + "D:a;1");
            fine("E:-!" + atom + "*!-" + atom + "D:a;1");
            wrong("E:" + atom + " 1D:a;1", 3 + atom.length());
            wrong("E:" + atom + "(1)D:a;1", 2 + atom.length());
            wrong("E:" + atom + "!1D:a;1", 2 + atom.length());
            wrong("E:+" + atom, 2);
        }
        for (String none : new String[] {"*", "/", "%", "<", ">", "=", "|", ",", ";", ":", "_", ")", "==", "!=", "<=",
            ">=", "&&", "||", ">>", "G", "W", "T", "E", "C", "D", "X", "&", "12345"}) {
            wrong("E:" + none, 2);
            wrong("E:-" + none, 3);
            wrong("E:(" + none, 3);
            wrong("E:M(" + none, 4);
            wrong("E:M" + none, 3);
            wrong("W:1T:O" + none, 6);
        }
    }

    private static void olds() {
        PROBE.sentence("O stands in the expressions of claims alone, and in no other O.");
        fine("W:1T:O(1)");
        fine("W:1T:O(1)+O(2);O(3)");
        fine("W:1T:M(O(1));(O(1));-O(1);!O(1)");
        wrong("G:O(1)E:1", 2);
        wrong("G:a=O(1)E:1", 4);
        wrong("W:O(1)T:1", 2);
        wrong("E:O(1)", 2);
        wrong("W:1T:1C:O(1)", 8);
        wrong("W:1T:1E:O(1)", 8);
        wrong("W:1T:O(1)E:O(1)", 11);
        wrong("W:1T:O(1)W:O(1)T:1", 11);
        wrong("W:1T:1D:a;O(1)", 10);
        wrong("W:1T:1*M(O(1))", 9);
        wrong("W:1T:1*M(_)>>O(1)", 13);
        wrong("W:1T:O(O(1))", 7);
        wrong("W:1T:O(1+O(1))", 9);
        wrong("W:1T:O(M(O(1)))", 9);
        wrong("W:1T:O(1)+O(O(1))", 12);
    }

    /** All ways to put so many signs and parentheses around a 1: the n-th one, counted from 0. */
    private static String nest(int n, int depth, boolean closed) {
        String[] kinds = {"-", "!", "(", "M(", "N("};
        StringBuilder opening = new StringBuilder();
        StringBuilder closing = new StringBuilder();
        int rest = n;
        for (int i = 0; i < depth; i++) {
            String kind = kinds[rest % kinds.length];
            opening.append(kind);
            closing.append(kind.endsWith("(") ? ")" : "");
            rest /= kinds.length;
        }
        return closed ? opening + "1" + closing : opening.toString();
    }

    private static void fourDeep() {
        PROBE.sentence("Signs, and parentheses (those of M, N and O too) around an expression, lie at most 4 deep in"
            + " one another, counted together");
        for (int n = 0; n < 625; n++) {
            String nest = nest(n, 4, true);
            fine("E:" + nest);
            fine("E:1+" + nest + "*" + nest + "==" + nest);
            fine("G:a=" + nest + " E:" + nest + " C:" + nest + " D:b;" + nest);
            fine("W:" + nest + " T:" + nest + ";" + nest);
        }
    }

    private static void fiveDeep() {
        PROBE.sentence("the token that lies too deep is the sign or the opening parenthesis");
        for (int n = 0; n < 3125; n++) {
            String nest = nest(n, 5, true);
            int tooDeep = nest(n, 5, false).length() - 1;
            wrong("E:" + nest, 2 + tooDeep);
            wrong("E:1+" + nest, 4 + tooDeep);
            wrong("G:" + nest + "E:1", 2 + tooDeep);
            wrong("W:1T:" + nest, 5 + tooDeep);
            wrong("E:1C:a=" + nest, 7 + tooDeep);
            wrong("E:1D:a;1;1+" + nest, 11 + tooDeep);
        }
        wrong("E:------1", 6);
        wrong("E:" + "(".repeat(118), 6);
        wrong("E:" + "-".repeat(118), 6);
        wrong("E:" + "M(".repeat(59), 11);
    }

    private static void depthOfOlds() {
        PROBE.sentence("Signs, and parentheses (those of M, N and O too)");
        fine("W:1T:O((((1))))");
        wrong("W:1T:O(((((1)))))", 10);
        fine("W:1T:(((O(1))))");
        wrong("W:1T:((((O(1)))))", 10);
        fine("W:1T:O(-!-1)");
        wrong("W:1T:O(-!-!1)", 10);
        fine("W:1T:-!-O(1)");
        wrong("W:1T:-!-!O(1)", 10);
        fine("W:1T:1*M(_);-(-O(1))");
        wrong("W:1T:1*M(_);-(-O(-1))", 17);
    }
}
