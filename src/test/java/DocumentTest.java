/**
 * The document from its first line on: the sentences, and the parts of sentences, that no other test names. Each test
 * says which one it is for.
 */
public final class DocumentTest {
    private static final Probe PROBE = new Probe("DocumentTest");
    private static final String CAPITALS = "GWTECDMNOX";
    private static final String SINGLES = "()+-*/%<>=!|,;:_";

    public static void main(String[] args) {
        whatItIs();
        laterCalls();
        objectsOfTheirOwn();
        capitals();
        singleCharacters();
        blocksOfSteps();
        kindsOfSteps();
        piecesOfARule();
        tooDeep();
        otherwiseNought();
        noughtToFive();
        valueOfACall();
        thrownInWhen();
        failedFirst();
        valuesAtTheEnd();
        charactersDrawn();
        PROBE.finish();
    }

    private static void whatItIs() {
        PROBE.sentence("Runs features that are written in a small language: labelled blocks of steps and conditions,"
            + " tables of data, stand-ins that count and answer calls, and a drawing of each value below the condition"
            + " that failed.");
        SpecRunner runner = PROBE.ran("G:b=2 W:c=M(a)+b T:1*M(!0)>>5,6; !X E:c==a C:d=c*10 D:a; 7; 8; 0", 2);
        PROBE.due("iterations", runner.iterations(), 3);
        int[] status = {0, 1, 2};
        int[] failedAt = {-1, 38, 19};
        int[] calls = {1, 1, 1};
        int[] cleaned = {70, 70, 20};
        for (int k = 0; k < 3; k++) {
            PROBE.due("status of " + k, runner.status(k), status[k]);
            PROBE.due("failedAt of " + k, runner.failedAt(k), failedAt[k]);
            PROBE.due("calls of " + k, runner.calls(k, 0), calls[k]);
            PROBE.due("what the cleanup of " + k + " left", runner.variable(k, 3), cleaned[k]);
        }
        PROBE.due("drawing of 0", Probe.drawing(runner, 0), "");
        PROBE.due("drawing of 1", Probe.drawing(runner, 1), "c==a\n|| |\n|0 8\n7\n");
        PROBE.due("drawing of 2", Probe.drawing(runner, 2), "");
    }

    private static void laterCalls() {
        PROBE.sentence("; what later calls answer is free");
        SpecRunner runner = PROBE.ran("E:a D:a;0;1", 1);
        for (int call = 0; call < 2000; call++) {
            runner.type(' ', 1);
            runner.judge();
            runner.run();
            runner.drawn(0, call, call);
        }
        PROBE.sentence(", and nothing about an object after its 512th call.");
        PROBE.due("another object", PROBE.ran("E:a D:a;0;1", 1).status(0), 1);
    }

    /** Each call of one object stands between calls of another one, which has another source, feature and run. */
    private static void objectsOfTheirOwn() {
        PROBE.sentence("No source, no feature, no iterations.");
        String first = "W:a=M(1)T:1*M(_)>>4;O(a)-a+4 C:b=N(a)";
        String second = "E:x;x-2 C:1/(x-1) D:x;0;1;2";
        SpecRunner one = new SpecRunner();
        SpecRunner two = new SpecRunner();
        for (int i = 0; i < Math.max(first.length(), second.length()); i++) {
            PROBE.due("type", i >= first.length() || one.type(first.charAt(i), 1), true);
            PROBE.due("type", i >= second.length() || two.type(second.charAt(i), 1), true);
        }
        PROBE.due("judge of one", one.judge(), 0);
        PROBE.due("run of two, before its judge", two.run(), SpecRunner.BAD);
        PROBE.due("judge of two", two.judge(), 0);
        PROBE.due("run of one", one.run(), 1);
        PROBE.due("iterations of two", two.iterations(), 0);
        PROBE.due("run of two", two.run(), 3);
        PROBE.due("what one tells", Probe.told(one), Probe.told(PROBE.ran(first, 1)));
        PROBE.due("what two tells", Probe.told(two), Probe.told(PROBE.ran(second, 3)));
        SpecRunner three = new SpecRunner();
        PROBE.due("judge of a new one", three.judge(), 1);
        PROBE.due("run of a new one", three.run(), SpecRunner.BAD);
        PROBE.due("iterations of a new one", three.iterations(), 0);
    }

    /** Behind a beginning, some of the tokens let it go on; each other one is the wrong one, at its own place. */
    private static void goOn(String beginning, String tokens, String fitting) {
        for (int i = 0; i < tokens.length(); i++) {
            String source = beginning + tokens.charAt(i);
            SpecRunner runner = new SpecRunner();
            Probe.type(runner, source);
            boolean fits = fitting.indexOf(tokens.charAt(i)) >= 0;
            boolean goesOn = runner.judge() != 1 || runner.place() == source.length();
            PROBE.due("whether '" + source + "' can go on", goesOn, fits);
            if (!fits) {
                PROBE.due("place of '" + source + "'", runner.place(), beginning.length());
            }
        }
    }

    private static void capitals() {
        PROBE.sentence(", a capital, the pairs");
        goOn("", CAPITALS, "GWE");
        goOn("E", CAPITALS, "");
        goOn("G:", CAPITALS, "MN");
        goOn("G:1", CAPITALS, "WE");
        goOn("G:a=", CAPITALS, "MN");
        goOn("E:", CAPITALS, "MN");
        goOn("E:1", CAPITALS, "EWCD");
        goOn("E:1;", CAPITALS, "MN");
        goOn("E:M", CAPITALS, "");
        goOn("E:M(", CAPITALS, "MN");
        goOn("W:", CAPITALS, "MN");
        goOn("W:1", CAPITALS, "T");
        goOn("W:1T:", CAPITALS, "MNOX");
        goOn("W:1T:1", CAPITALS, "EWCD");
        goOn("W:1T:X", CAPITALS, "EWCD");
        goOn("W:1T:!", CAPITALS, "MNOX");
        goOn("W:1T:!!", CAPITALS, "MNO");
        goOn("W:1T:1+", CAPITALS, "MNO");
        goOn("W:1T:1*", CAPITALS, "MNO");
        goOn("W:1T:1-_*", CAPITALS, "MN");
        goOn("W:1T:1*M(", CAPITALS, "");
        goOn("W:1T:1*M(_)", CAPITALS, "EWCD");
        goOn("W:1T:1*M(_)>>1", CAPITALS, "EWCD");
        goOn("W:1T:O(", CAPITALS, "MN");
        goOn("E:1C:", CAPITALS, "MN");
        goOn("E:1C:1", CAPITALS, "D");
        goOn("E:1D:", CAPITALS, "");
        goOn("E:1D:a", CAPITALS, "");
        goOn("E:1D:a;", CAPITALS, "MN");
        goOn("E:1D:a;1", CAPITALS, "");
    }

    private static void singleCharacters() {
        PROBE.sentence(", and the single characters ( ) + - * / % < > = ! | , ; : _");
        goOn("", SINGLES, "");
        goOn("E", SINGLES, ":");
        goOn("E:", SINGLES, "(-!");
        goOn("E:1", SINGLES, "+-*/%<>;");
        goOn("E:1+", SINGLES, "(-!");
        goOn("E:1<", SINGLES.replace("=", ""), "(-!");
        goOn("E:1<1", SINGLES, "+-*/%;");
        goOn("E:M", SINGLES, "(");
        goOn("E:(1", SINGLES, ")+-*/%<>");
        goOn("E:(1)", SINGLES, "+-*/%<>;");
        goOn("G:a", SINGLES, "=+-*/%<>;");
        goOn("G:1;a", SINGLES, "=+-*/%<>;");
        goOn("G:1", SINGLES, "+-*/%<>;");
        goOn("W:1T:1-", SINGLES, "(-!_");
        goOn("W:1T:1-_", SINGLES, "*");
        goOn("W:1T:1*M", SINGLES, "(");
        goOn("W:1T:1*M(", SINGLES, "!_");
        goOn("W:1T:1*M(1", SINGLES, ")");
        goOn("W:1T:1*M(1)", SINGLES, ";");
        goOn("W:1T:1*M(1)>>", SINGLES.replace(">", ""), "-");
        goOn("W:1T:1*M(1)>>1", SINGLES, ",;");
        goOn("W:1T:X", SINGLES, ";");
        goOn("E:1D:", SINGLES, "");
        goOn("E:1D:a", SINGLES, "|;");
        goOn("E:1D:a|", SINGLES.replace("|", ""), "");
        goOn("E:1D:a;", SINGLES, "(-!");
        goOn("E:1D:a;1", SINGLES, "|+-*/%;");
    }

    private static void blocksOfSteps() {
        PROBE.sentence("GIVEN is G : STEPS; WHEN is W : STEPS; CLEANUP is C : STEPS");
        SpecRunner runner = PROBE.ends("G:a=1;b=a+1;M(b) W:c=b+1;d=c+1;N(d) T:d==4 C:e=d+1;f=e+1;N(f)", 0, -1);
        for (int v = 0; v < 6; v++) {
            PROBE.due("the step that assigns " + (char) ('a' + v), runner.variable(0, v), v + 1);
        }
        PROBE.due("the step of GIVEN that calls", runner.calls(0, 0), 1);
        PROBE.due("the steps of WHEN and CLEANUP that call", runner.calls(0, 1), 2);
        PROBE.verdict("G a=1 E:1", 1, 2);
        PROBE.verdict("G:a=1 W a=1 T:1", 1, 8);
        PROBE.verdict("E:1 C a=1", 1, 6);
        PROBE.verdict("G:: a=1 E:1", 1, 2);
        PROBE.verdict("a=1 E:1", 1, 0);
        PROBE.verdict("G:E:1", 1, 2);
        PROBE.verdict("W:T:1", 1, 2);
        PROBE.verdict("E:1 C:", 1, 6);
        PROBE.verdict("G:1*M(_) E:1", 1, 6);
        PROBE.verdict("W:X T:1", 1, 2);
        PROBE.verdict("E:1 C:!X", 1, 7);
    }

    private static void kindsOfSteps() {
        PROBE.sentence("a STEP is an expression, or a variable (it is ASSIGNED), = and an expression.");
        String[] expressions = {"7", "-7", "!0", "(3)", "2*3-1", "1<2", "1==2||3", "M(1)+4", "0&&N(1)", "1/2"};
        int[] values = {7, -7, 1, 3, 5, 1, 1, 4, 0, 0};
        for (int i = 0; i < expressions.length; i++) {
            String step = expressions[i];
            for (String block : new String[] {"G:% E:1", "W:% T:1", "E:1 C:%"}) {
                SpecRunner runner = PROBE.ends(block.replace("%", "a=9;" + step), 0, -1);
                PROBE.due("a behind the step " + step, runner.variable(0, 0), 9);
                runner = PROBE.ends(block.replace("%", "a=9;a=" + step), 0, -1);
                PROBE.due("a behind the step a=" + step, runner.variable(0, 0), values[i]);
                runner = PROBE.ends(block.replace("%", "a=9;b = " + step), 0, -1);
                PROBE.due("a behind the step b=" + step, runner.variable(0, 0), 9);
                PROBE.due("b behind the step b=" + step, runner.variable(0, 1), values[i]);
            }
        }
        SpecRunner runner = PROBE.ends("G:a=5;a==6;a!=6;a<=6 E:a==5", 0, -1);
        PROBE.due("a comparison assigns nothing", runner.variable(0, 0), 5);
    }

    private static void piecesOfARule() {
        PROBE.sentence("; M or N; ( ARGUMENT ); and perhaps >> and ANSWERS");
        String[] pieces = {"2", "-", "3", "*", "N", "(", "!", "4", ")", ">>", "-", "5", ",", "6"};
        // Those with which the claim may end, so that it is the claim behind the ; that is missing.
        String ends = "2 . 3 . . . . . ) . . 5 . 6";
        StringBuilder rule = new StringBuilder("W:1T:");
        for (int i = 0; i < pieces.length; i++) {
            rule.append(pieces[i]);
            boolean mayEnd = ends.charAt(2 * i) != '.';
            PROBE.verdict(rule + ";", 1, rule.length() + (mayEnd ? 1 : 0));
        }
        PROBE.verdict(rule.toString(), 0, -1);
        PROBE.verdict("W:1T:2-3*N", 1, 10);
        PROBE.verdict("W:1T:2-3*N!4)", 1, 10);
        PROBE.verdict("W:1T:2-3*N(!4", 1, 13);
        PROBE.verdict("W:1T:2-3*N(!4(", 1, 13);
        PROBE.verdict("W:1T:2-3*MN(4)", 1, 10);
        PROBE.verdict("W:1T:2-3*N(4)(5)", 1, 13);
        PROBE.verdict("W:1T:2-3*N(4)>>5>>6", 1, 16);
        SpecRunner runner = PROBE.ends("W:a=N(7);b=N(4);c=M(7);d=N(-4)T:2-3*N(!4)>>-5,6", 0, -1);
        int[] due = {-5, 0, 0, 6};
        for (int v = 0; v < due.length; v++) {
            PROBE.due("call " + v, runner.variable(0, v), due[v]);
        }
    }

    private static void tooDeep() {
        PROBE.sentence(", or which lies too deep.");
        PROBE.verdict("E:(((((1", 1, 6);
        PROBE.verdict("E:((((1", 1, 7);
        PROBE.verdict("E:(((((", 1, 6);
        PROBE.verdict("E:((((", 1, 6);
        PROBE.verdict("E:((((-1))))", 1, 6);
        PROBE.verdict("E:((((1-1))))", 0, -1);
        PROBE.verdict("E:((((1--1))))", 1, 8);
        PROBE.verdict("E:((((1)-1)--1)-!1)--(-1)", 0, -1);
        PROBE.verdict("E:1)(((((1", 1, 3);
        PROBE.verdict("E:(((((1 12345", 1, 6);
        PROBE.verdict("E:12345 (((((1", 1, 2);
        PROBE.verdict("E:z;(((((1)))))", 1, 8);
        PROBE.verdict("E:((((M 1", 1, 8);
        PROBE.verdict("E:((((M (1", 1, 8);
        PROBE.verdict("W:1T:((((1*M(_)", 1, 12);
        PROBE.verdict("W:1T:((((O(1)", 1, 10);
    }

    private static void otherwiseNought() {
        PROBE.sentence("Otherwise 0.");
        PROBE.verdict("E:0", 0, -1);
        PROBE.verdict("E:1/0", 0, -1);
        PROBE.verdict("W:1T:X;!X", 0, -1);
        PROBE.verdict("W:M(1)T:0*M(_)", 0, -1);
        PROBE.verdict("W:1T:9999*M(1);9999*M(1)", 0, -1);
        PROBE.verdict("G:a=1;a=2;a=a E:a", 0, -1);
        PROBE.verdict("E:1 D:a|b|c|d;1|a|b|c;1/0|a|a+b|M(c);1|1|1|1;1|1|1|1;1|1|1|1;1|1|1|1", 0, -1);
    }

    private static void noughtToFive() {
        PROBE.sentence("Judges the source (an empty one: 1 at 0): 0 to 5.");
        String[] sources = {"E:1", "E:", "E:a", "G:a=1E:1D:a;1", "E:1D:a;1|1", "W:1T:1-0*M(1)"};
        int[] places = {-1, 2, 2, 2, 7, 5};
        SpecRunner runner = new SpecRunner();
        for (int before = 0; before < sources.length; before++) {
            for (int verdict = 0; verdict < sources.length; verdict++) {
                Probe.type(runner, sources[before]);
                PROBE.due("judge of " + sources[before], runner.judge(), before);
                Probe.type(runner, sources[verdict]);
                PROBE.due("judge of " + sources[verdict], runner.judge(), verdict);
                PROBE.due("place of " + sources[verdict], runner.place(), places[verdict]);
                PROBE.due("judge once more", runner.judge(), verdict);
                PROBE.due("place once more", runner.place(), places[verdict]);
            }
        }
    }

    private static void valueOfACall() {
        PROBE.sentence(", and the call's value is the answer for it: the first answer for the first call");
        String[] steps = {"M(1)", "-M(1)", "!M(1)", "M(1)*2", "2-M(1)", "M(1)==3", "M(1)&&0", "0||M(1)", "9/M(1)", "9%(M(1)-1)",
            "N(M(1))", "(M(1))", "M(1)<M(1)+1"};
        int[] due = {3, -3, 0, 6, -1, 1, 0, 1, 3, 1, 8, 3, 1};
        for (int i = 0; i < steps.length; i++) {
            SpecRunner runner = PROBE.ends("W:a=" + steps[i] + " T:0-_*M(1)>>3;0-_*N(3)>>8", 0, -1);
            PROBE.due("the value of " + steps[i], runner.variable(0, 0), due[i]);
        }
        PROBE.ends("W:a=5/M(1)T:1*M(_)>>0;X", 0, -1);
        PROBE.ends("W:a=5/M(1)T:1*M(_)>>0", 3, 5);
    }

    /** Only what the steps of the part's own WHEN threw is there to be found. */
    private static void thrownInWhen() {
        PROBE.sentence("WHEN with its THEN: first all O's of THEN are evaluated");
        PROBE.ends("W:1/0T:X W:1T:!X", 0, -1);
        PROBE.ends("W:1/0T:X W:1T:X", 1, 14);
        PROBE.ends("W:1T:!X W:1/0T:X W:1T:!X", 0, -1);
        PROBE.ends("G:a=4 W:a=1/0T:X;a==4;O(a)==4 W:a=5T:O(a)==4;a==5", 0, -1);
        PROBE.ran("W:b=1/a T:X D:a;0;1;0", 1);
        PROBE.ran("W:b=1/a T:!X D:a;0;1;0", 2);
    }

    private static void failedFirst() {
        PROBE.sentence("How iteration k (from 0) of the latest run failed first");
        SpecRunner runner = PROBE.ran("E:a-1 W:M(a)T:0*M(2);a-3 E:1/(a-4) C:1/0 D:a;1;2;3;4;5", 5);
        int[] status = {1, 2, 1, 3, 3};
        int[] failedAt = {2, 8, 21, 28, 38};
        for (int k = 0; k < status.length; k++) {
            PROBE.due("status of " + k, runner.status(k), status[k]);
            PROBE.due("failedAt of " + k, runner.failedAt(k), failedAt[k]);
            PROBE.due("second of " + k, runner.second(k), k < 4);
        }
    }

    private static void valuesAtTheEnd() {
        PROBE.sentence("The value at the end of iteration k of the variable v");
        SpecRunner runner = PROBE.ran("G:b=1 W:b=2;b=3/a;b=4 T:b==4 C:c=b;d=1/(a-2);d=9 D:a;0;1;2", 2);
        int[][] due = {{0, 2, 2, 9}, {1, 4, 4, 9}, {2, 4, 4, 0}};
        for (int k = 0; k < due.length; k++) {
            for (int v = 0; v < due[k].length; v++) {
                PROBE.due("variable " + v + " of " + k, runner.variable(k, v), due[k][v]);
            }
        }
    }

    private static void charactersDrawn() {
        PROBE.sentence("The character at a column (from 0) of a line of the drawing of iteration k, 32 (a space) where"
            + " nothing stands");
        SpecRunner runner = PROBE.ran("E:a  < b-a;(b) D:a|b;0|0;12|7;-3|0;1|9999", 3);
        String[][] due = {
            {"a  < b-a", "|  | |||", "0  0 ||0", "     |0", "     0"},
            {"a  < b-a", "|  | |||", "12 0 ||12", "     |-5", "     7"},
            {"(b)", " |", " 0"},
            {}
        };
        for (int k = 0; k < due.length; k++) {
            PROBE.due("lines of " + k, runner.lines(k), due[k].length);
            for (int line = 0; line < 6; line++) {
                for (int column = 0; column < 10; column++) {
                    String text = line < due[k].length ? due[k][line] : null;
                    int character = text == null ? 0 : column < text.length() ? text.charAt(column) : 32;
                    PROBE.due("drawn(" + k + ", " + line + ", " + column + ")", runner.drawn(k, line, column), character);
                }
            }
        }
    }
}
