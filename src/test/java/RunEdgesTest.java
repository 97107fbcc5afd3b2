/** The boundary cases of values and iterations: promises 6 to 12, but for the calls that rules answer (RuleEdgesTest). */
public final class RunEdgesTest {
    private static final Probe PROBE = new Probe("RunEdgesTest");
    /** Steps that leave the least int in i and the greatest in j. */
    private static final String EXTREMES = "i=8192;i=i*i*32;j=i-1;";

    public static void main(String[] args) {
        howManyIterations();
        wrapping();
        quotients();
        byZero();
        truths();
        comparisons();
        secondSides();
        leftToRight();
        allVariablesBegin();
        rowsFromLeft();
        rowThrows();
        partsUntilOneFails();
        partsInARow();
        cleanupInAnyCase();
        expectations();
        stepsLeftOut();
        noClaimIsX();
        thrownOrNot();
        oldsFirst();
        thrownElsewhere();
        failureEnds();
        secondFailures();
        PROBE.finish();
    }

    private static SpecRunner gives(String expression, int value) {
        SpecRunner runner = PROBE.ends("G:" + EXTREMES + "a=" + expression + " E:1", 0, -1);
        PROBE.due("the value of " + expression, runner.variable(0, 0), value);
        return runner;
    }

    private static void howManyIterations() {
        PROBE.sentence("There is an ITERATION for each row, in order; one when there is no WHERE.");
        PROBE.due("iterations without a WHERE", PROBE.ran("E:1", 0).iterations(), 1);
        for (int rows = 1; rows <= 6; rows++) {
            StringBuilder source = new StringBuilder("E:a-5D:a");
            for (int row = 0; row < rows; row++) {
                source.append(';').append(row);
            }
            SpecRunner runner = PROBE.ran(source.toString(), rows == 6 ? 1 : 0);
            PROBE.due("iterations with " + rows + " rows", runner.iterations(), rows);
            for (int k = 0; k < rows; k++) {
                PROBE.due("the value of row " + k, runner.variable(k, 0), k);
                PROBE.due("the status of row " + k, runner.status(k), k == 5 ? 1 : 0);
            }
        }
    }

    private static void wrapping() {
        PROBE.sentence("Values are ints; sums, differences and products wrap");
        gives("i", Integer.MIN_VALUE);
        gives("j", Integer.MAX_VALUE);
        gives("j+1", Integer.MIN_VALUE);
        gives("j+j", -2);
        gives("i+i", 0);
        gives("i-1", Integer.MAX_VALUE);
        gives("i-j", 1);
        gives("j-i", -1);
        gives("0-i", Integer.MIN_VALUE);
        gives("-i", Integer.MIN_VALUE);
        gives("-j", Integer.MIN_VALUE + 1);
        gives("j*2", -2);
        gives("j*j", 1);
        gives("i*i", 0);
        gives("i*-1", Integer.MIN_VALUE);
        gives("i*3", Integer.MIN_VALUE);
        gives("256*256*256*256", 0);
        gives("9999*9999*9999", (int) (9999L * 9999 * 9999));
        SpecRunner runner = PROBE.ran("E:1D:a|b|c;9999*9999*9999|-a-a-a|b*b", 0);
        int a = (int) (9999L * 9999 * 9999);
        PROBE.due("a product in a row", runner.variable(0, 0), a);
        PROBE.due("a difference in a row", runner.variable(0, 1), -a - a - a);
        PROBE.due("a product of it", runner.variable(0, 2), (-a - a - a) * (-a - a - a));
    }

    private static void quotients() {
        PROBE.sentence("a quotient is rounded to zero and a remainder has the sign of the first value");
        gives("7/2", 3);
        gives("-7/2", -3);
        gives("7/-2", -3);
        gives("-7/-2", 3);
        gives("7%2", 1);
        gives("-7%2", -1);
        gives("7%-2", 1);
        gives("-7%-2", -1);
        gives("6%-3", 0);
        gives("1/2", 0);
        gives("-1/2", 0);
        gives("0/-5", 0);
        gives("-1%2", -1);
        gives("i/2", -1073741824);
        gives("i/10", -214748364);
        gives("i%10", -8);
        gives("j%-10", 7);
        gives("i/j", -1);
        gives("i%j", -1);
        gives("j/i", 0);
        gives("j%i", Integer.MAX_VALUE);
        gives("i/i", 1);
        gives("i/-1", Integer.MIN_VALUE);
        gives("i%-1", 0);
    }

    private static void byZero() {
        PROBE.sentence("/ and % by 0 THROW (their place)");
        PROBE.ends("E:1/1", 0, -1);
        PROBE.ends("E:1/-1", 0, -1);
        PROBE.ends("E:1/0", 3, 3);
        PROBE.ends("E:1%0", 3, 3);
        PROBE.ends("E:0/0", 3, 3);
        PROBE.ends("E:0%0", 3, 3);
        PROBE.ends("E:0/1==0", 0, -1);
        PROBE.ends("E:7/-0", 3, 3);
        PROBE.ends("E:7%(1-1)", 3, 3);
        PROBE.ends("E:7/(256*256*256*256)", 3, 3);
        PROBE.ends("G:" + EXTREMES + "1;i/0 E:1", 3, 27);
        PROBE.ends("E:1+2*3%M(4)", 3, 7);
        PROBE.ends("E:1" + "*1".repeat(57) + "%0", 3, 117);
    }

    private static void truths() {
        PROBE.sentence("Comparisons, !, && and || give 1 or 0; a value counts as true when it is not 0");
        PROBE.ends("E:0", 1, 2);
        PROBE.ends("E:-0", 1, 2);
        PROBE.ends("E:1;-1;9999;-9999", 0, -1);
        PROBE.ends("G:" + EXTREMES + "1E:i;j", 0, -1);
        gives("!0", 1);
        gives("!1", 0);
        gives("!-1", 0);
        gives("!i", 0);
        gives("!!i", 1);
        gives("7&&-7", 1);
        gives("i&&j", 1);
        gives("7&&0", 0);
        gives("0&&7", 0);
        gives("0&&0", 0);
        gives("7||-7", 1);
        gives("i||0", 1);
        gives("0||j", 1);
        gives("0||0", 0);
    }

    private static void comparisons() {
        PROBE.sentence("Comparisons, !, && and || give 1 or 0");
        String[] operators = {"==", "!=", "<", "<=", ">", ">="};
        int[] below = {0, 1, 1, 1, 0, 0};
        int[] same = {1, 0, 0, 1, 0, 1};
        int[] above = {0, 1, 0, 0, 1, 1};
        for (int o = 0; o < operators.length; o++) {
            gives("4" + operators[o] + "5", below[o]);
            gives("5" + operators[o] + "5", same[o]);
            gives("6" + operators[o] + "5", above[o]);
            gives("-1" + operators[o] + "0", below[o]);
            gives("i" + operators[o] + "j", below[o]);
            gives("i" + operators[o] + "i+1", below[o]);
            gives("i" + operators[o] + "i", same[o]);
            gives("j" + operators[o] + "j", same[o]);
            gives("j" + operators[o] + "i", above[o]);
            gives("j" + operators[o] + "-1", above[o]);
        }
    }

    private static void secondSides() {
        PROBE.sentence("&& and || don't evaluate their second side when the first one decides.");
        String[] firsts = {"0&&", "1&&", "-1&&", "0||", "1||", "-1||"};
        int[] calls = {0, 1, 1, 1, 0, 0};
        for (int i = 0; i < firsts.length; i++) {
            SpecRunner runner = PROBE.ends("G:a=" + firsts[i] + "M(1)E:1", 0, -1);
            PROBE.due("calls of " + firsts[i] + "M(1)", runner.calls(0, 0), calls[i]);
            PROBE.ends("G:a=" + firsts[i] + "1/0E:1", calls[i] == 1 ? 3 : 0, calls[i] == 1 ? 5 + firsts[i].length() : -1);
        }
        PROBE.due("0&&M(1)||N(1)", PROBE.ends("G:0&&M(1)||N(1)E:1", 0, -1).calls(0, 1), 1);
        PROBE.due("1||M(1)&&N(1)", PROBE.ends("G:1||M(1)&&N(1)E:1", 0, -1).calls(0, 0), 0);
        PROBE.due("0&&0&&M(1)", PROBE.ends("G:0&&0&&M(1)E:1", 0, -1).calls(0, 0), 0);
        PROBE.due("0||1||M(1)", PROBE.ends("G:0||1||M(1)E:1", 0, -1).calls(0, 0), 0);
        PROBE.due("1&&1&&M(1)", PROBE.ends("G:1&&1&&M(1)E:1", 0, -1).calls(0, 0), 1);
    }

    private static void leftToRight() {
        PROBE.sentence("Everything is evaluated from left to right.");
        PROBE.ends("W:a=M(1)*100+M(2)*10+M(3)T:3*M(_)>>1,2,3;a==123", 0, -1);
        PROBE.ends("W:a=M(1)-M(1)*M(1)T:3*M(_)>>1,2,3;a==-5", 0, -1);
        PROBE.ends("W:a=M(1)<M(1)T:2*M(_)>>1,2;a", 0, -1);
        PROBE.ends("W:a=M(M(1))T:2*M(_)>>1,2;a==2", 0, -1);
        PROBE.ends("E:1/0+1%0", 3, 3);
        PROBE.ends("E:1*(1%0)/0", 3, 6);
        PROBE.ends("E:M(1/0)%0", 3, 5);
        PROBE.due("a call before the throw", PROBE.ends("E:M(1)/0+M(2)", 3, 6).calls(0, 0), 1);
    }

    private static void allVariablesBegin() {
        PROBE.sentence("An iteration begins with all variables 0");
        SpecRunner runner = PROBE.ran("W:b=7;z=8T:O(b+z)==0;a-2 C:y=9 D:a;1;2;3", 1);
        for (int v = 1; v < 26; v++) {
            int due = v == 1 ? 7 : v == 25 ? 8 : v == 24 ? 9 : 0;
            PROBE.due("variable " + v + " of 1", runner.variable(1, v), due);
            PROBE.due("variable " + v + " of 2", runner.variable(2, v), due);
        }
        PROBE.due("run again", runner.run(), 1);
        PROBE.due("failedAt of 1", runner.failedAt(1), 21);
        Probe.type(runner, "E:1");
        runner.judge();
        runner.run();
        for (int v = 0; v < 26; v++) {
            PROBE.due("variable " + v + " of another feature", runner.variable(0, v), 0);
        }
    }

    private static void rowsFromLeft() {
        PROBE.sentence("and then gets the values of its row, from left to right");
        SpecRunner runner = PROBE.ran("E:1D:d|c|b|a;1|d+1|c*d+5|b-c+d;-1|d|c|d+c+b", 0);
        int[][] due = {{6, 7, 2, 1}, {-3, -1, -1, -1}};
        for (int k = 0; k < 2; k++) {
            for (int v = 0; v < 4; v++) {
                PROBE.due("variable " + v + " of row " + k, runner.variable(k, v), due[k][v]);
            }
        }
        PROBE.due("a call in a row", PROBE.ran("E:1D:a;M(5)", 0).calls(0, 0), 1);
    }

    private static void rowThrows() {
        PROBE.sentence("when a sum throws, the iteration fails (kind 3, at that place) and nothing else is done (also"
            + " no CLEANUP)");
        String start = "G:e=1E:0C:1/0D:a|b|c|d;1|1|1|1;";
        for (int column = 0; column < 4; column++) {
            StringBuilder row = new StringBuilder();
            for (int c = 0; c < 4; c++) {
                row.append(c == 0 ? "" : "|").append(c == column ? "1%0" : "M(1)+8");
            }
            SpecRunner runner = PROBE.ran(start + row + ";2|2|2|2", 3);
            PROBE.due("status with column " + column, runner.status(1), 3);
            PROBE.due("failedAt with column " + column, runner.failedAt(1), start.length() + 7 * column + 1);
            PROBE.due("second with column " + column, runner.second(1), false);
            PROBE.due("no GIVEN with column " + column, runner.variable(1, 4), 0);
            PROBE.due("no EXPECT with column " + column, runner.lines(1), 0);
            PROBE.due("calls with column " + column, runner.calls(1, 0), column);
            for (int c = 0; c < 4; c++) {
                PROBE.due("column " + c + " with column " + column, runner.variable(1, c), c < column ? 8 : 0);
            }
            PROBE.due("the row before", runner.second(0), true);
            PROBE.due("the row behind", runner.second(2), true);
            PROBE.due("its value", runner.variable(2, 3), 2);
        }
    }

    private static void partsUntilOneFails() {
        PROBE.sentence("Then GIVEN's steps are done, then the parts, one after the other, until something fails");
        int parts = 7;
        for (int bad = -1; bad <= parts; bad++) {
            StringBuilder source = new StringBuilder(bad < 0 ? "G:1/0" : "G:1/1");
            for (int p = 0; p < parts; p++) {
                source.append("W:").append((char) ('a' + p)).append("=1T:").append(p == bad ? '0' : '1').append("E:1");
            }
            boolean fails = bad < parts;
            int place = bad < 0 ? 3 : 5 + 11 * bad + 7;
            SpecRunner runner = PROBE.ends(source.toString(), !fails ? 0 : bad < 0 ? 3 : 1, fails ? place : -1);
            for (int p = 0; p < parts; p++) {
                PROBE.due("part " + p + " with " + bad, runner.variable(0, p), p <= bad ? 1 : 0);
            }
        }
    }

    private static void partsInARow() {
        PROBE.sentence("then the parts, one after the other, until something fails");
        for (int bad = 0; bad <= 40; bad++) {
            String source = "E:1".repeat(bad) + "E:0".repeat(40 - bad);
            PROBE.ends(source, bad < 40 ? 1 : 0, bad < 40 ? 3 * bad + 2 : -1);
        }
        for (int bad = 0; bad <= 20; bad++) {
            String source = "W:1T:1".repeat(bad) + "W:1T:X".repeat(20 - bad);
            PROBE.ends(source, bad < 20 ? 1 : 0, bad < 20 ? 6 * bad + 5 : -1);
        }
        String[] failing = {"E:0", "E:1/0", "E:1;0", "W:1T:0", "W:1T:X", "W:1T:1*N(_)", "W:N(1)T:0*N(_)", "W:1/0T:1"};
        for (String bad : failing) {
            SpecRunner runner = PROBE.ran("W:a=1T:1" + bad + "W:b=1T:1E:M(1)", 1);
            PROBE.due("the part before " + bad, runner.variable(0, 0), 1);
            PROBE.due("the part behind " + bad, runner.variable(0, 1), 0);
            PROBE.due("the last part behind " + bad, runner.calls(0, 0), 0);
            PROBE.due("no second failure behind " + bad, runner.second(0), false);
        }
    }

    private static void cleanupInAnyCase() {
        PROBE.sentence("then CLEANUP's steps, in any case");
        String[] fails = {"E:1", "E:0", "E:1/0", "G:1/0E:1", "W:1/0T:1", "W:1/0T:X", "W:1T:X", "W:1T:1*M(_)",
            "W:M(1)T:0*M(_)", "W:1T:O(1/0)", "W:1T:1/0"};
        int[] status = {0, 1, 3, 3, 3, 0, 1, 2, 2, 3, 3};
        for (int i = 0; i < fails.length; i++) {
            SpecRunner runner = PROBE.ran(fails[i] + " C:a=1;N(1);b=2", status[i] == 0 ? 0 : 1);
            PROBE.due("status of " + fails[i], runner.status(0), status[i]);
            PROBE.due("the first step behind " + fails[i], runner.variable(0, 0), 1);
            PROBE.due("the call behind " + fails[i], runner.calls(0, 1), 1);
            PROBE.due("the last step behind " + fails[i], runner.variable(0, 1), 2);
            PROBE.due("second of " + fails[i], runner.second(0), false);
        }
    }

    private static void expectations() {
        PROBE.sentence("EXPECT: each expression, in order, has to be true, or the iteration fails (1, at the"
            + " expression's place).");
        PROBE.ends("E:0;0", 1, 2);
        PROBE.ends("E:1;0", 1, 4);
        PROBE.ends("E:1;1", 0, -1);
        PROBE.ends("E:" + "1;".repeat(58) + "0", 1, 118);
        PROBE.ends("E:" + "1;".repeat(58) + "1", 0, -1);
        PROBE.ends("E:1;  (0)", 1, 6);
        PROBE.ends("E:1;-M(1)", 1, 4);
        PROBE.due("calls behind the one that failed", PROBE.ends("E:M(1);M(2)", 1, 2).calls(0, 0), 1);
    }

    private static void stepsLeftOut() {
        PROBE.sentence("WHEN's steps are done; when one throws, the others are left out");
        for (int bad = 0; bad <= 5; bad++) {
            StringBuilder source = new StringBuilder("W:");
            for (int s = 0; s < 5; s++) {
                source.append(s == 0 ? "" : ";").append((char) ('a' + s)).append("=7/").append(s == bad ? 0 : 1);
            }
            SpecRunner runner = PROBE.ends(source + "T:" + (bad < 5 ? "X" : "!X"), 0, -1);
            for (int s = 0; s < 5; s++) {
                PROBE.due("step " + s + " with " + bad, runner.variable(0, s), s < bad ? 7 : 0);
            }
        }
    }

    private static void noClaimIsX() {
        PROBE.sentence("When something was thrown and no claim is X, the iteration fails (3, at the place that threw).");
        PROBE.ends("W:1/0T:1", 3, 3);
        PROBE.ends("W:1/0T:!X", 3, 3);
        PROBE.ends("W:1;1;1%0T:0", 3, 7);
        PROBE.ends("W:1/0T:1*M(_)", 3, 3);
        PROBE.ends("W:1/0T:X", 0, -1);
        PROBE.ends("W:1/0T:1;1;1;X", 0, -1);
        PROBE.ends("W:1/0T:X W:1/0T:1", 3, 12);
        PROBE.ends("W:1T:1 W:1/0T:X", 0, -1);
    }

    private static void thrownOrNot() {
        PROBE.sentence("Then the claims, in order: X has to find something thrown, ! X nothing, an expression has to be"
            + " true; or the iteration fails (1, at the claim's place).");
        PROBE.ends("W:1T:X", 1, 5);
        PROBE.ends("W:1T:!X", 0, -1);
        PROBE.ends("W:1/0T:X;!X", 1, 9);
        PROBE.ends("W:1/0T:!X;X", 1, 7);
        PROBE.ends("W:1T:!X;X", 1, 8);
        PROBE.ends("W:1T:1; ! X;0;X", 1, 12);
        PROBE.ends("W:1T:X;1/0", 1, 5);
        PROBE.ends("W:1/0T:X;X;X", 0, -1);
        PROBE.ends("W:1T:" + "1;".repeat(57) + "0", 1, 119);
        PROBE.ends("W:1T:" + "1;".repeat(57) + "X", 1, 119);
        PROBE.ends("W:1T:" + "1;".repeat(57) + "1", 0, -1);
    }

    private static void oldsFirst() {
        PROBE.sentence("first all O's of THEN are evaluated, in order; what they give is what they stand for later");
        PROBE.ends("G:a=1 W:a=2 T:O(a)==1;a==2;O(a)+O(a*3)==4", 0, -1);
        PROBE.ends("G:a=1 W:a=2 T:a W:a=3 T:O(a)==2 W:1 T:O(a)==3", 0, -1);
        PROBE.due("an O once", PROBE.ends("W:1T:O(M(1))==0;0&&O(M(2))||1", 0, -1).calls(0, 0), 2);
        PROBE.ends("W:a=1/0T:X;O(1/0)+O(1%0)", 3, 14);
        PROBE.ends("W:1T:0;O(1/0)", 3, 10);
        SpecRunner runner = PROBE.ends("W:a=1T:O(M(1)/0)+O(M(1))", 3, 13);
        PROBE.due("no WHEN behind an O that throws", runner.variable(0, 0), 0);
        PROBE.due("no O behind it", runner.calls(0, 0), 1);
        PROBE.ends("W:1T:O(1)" + "+O(1)".repeat(21) + "==22", 0, -1);
    }

    private static void thrownElsewhere() {
        PROBE.sentence("What is thrown elsewhere than in WHEN fails the iteration (3, at the place that threw)");
        PROBE.ends("G:1/0 W:1 T:X", 3, 3);
        PROBE.ends("W:1 T:1 E:1/0", 3, 11);
        PROBE.ends("W:1 T:1/0;X", 3, 7);
        PROBE.ends("W:1 T:O(1/0);X", 3, 9);
        PROBE.ends("W:1/0 T:X;1/0", 3, 11);
        PROBE.ends("E:1 C:1/0", 3, 7);
        PROBE.ends("W:1/0 T:X C:1/0", 3, 13);
    }

    private static void failureEnds() {
        PROBE.sentence("a failure ends what was being done, but CLEANUP");
        String[] sources = {"G:1/0;a=1E:1C:b=1", "G:a=1/0E:1C:b=1", "E:0;M(1)C:b=1", "E:1/0;M(1)C:b=1", "E:1/0+M(1)C:b=1",
            "W:M(0)/0T:1C:b=1", "W:N(0);a=1T:0*N(_)C:b=1", "W:a=N(0)+1T:0*N(_)C:b=1", "W:1T:0;M(1)C:b=1", "W:1T:X;M(1)C:b=1",
            "W:1T:1/0;M(1)C:b=1", "W:1T:1*M(_)E:M(1)C:b=1", "W:1T:O(1/0)+O(M(1))C:b=1"};
        for (String source : sources) {
            SpecRunner runner = PROBE.ran(source, 1);
            PROBE.due("what was behind in " + source, runner.variable(0, 0), 0);
            PROBE.due("calls of " + source, runner.calls(0, 0), source.contains("M(0)") ? 1 : 0);
            PROBE.due("the cleanup of " + source, runner.variable(0, 1), 1);
        }
    }

    private static void secondFailures() {
        PROBE.sentence("When CLEANUP fails too, it is a SECOND failure, if there was one before.");
        SpecRunner runner = PROBE.ends("E:1C:a=1;1/0;a=2", 3, 10);
        PROBE.due("a first failure", runner.second(0), false);
        PROBE.due("a failure ends what was being done", runner.variable(0, 0), 1);
        String[] firsts = {"E:0", "E:1/0", "G:1/0E:1", "W:1T:X", "W:1T:1*M(_)", "W:M(1)T:0*M(_)", "W:1/0T:1"};
        for (String before : firsts) {
            runner = PROBE.ran(before + "C:a=1;1/0;a=2", 1);
            PROBE.due("a second failure behind " + before, runner.second(0), true);
            PROBE.due("a second failure ends the cleanup", runner.variable(0, 0), 1);
            SpecRunner first = PROBE.ran(before, 1);
            PROBE.due("the status is the first one's", runner.status(0), first.status(0));
            PROBE.due("the place is the first one's", runner.failedAt(0), first.failedAt(0));
        }
        runner = PROBE.ran("E:a C:1/b D:a|b;0|0;0|1;1|0;1|1;0|0;0|1", 5);
        for (int k = 0; k < 6; k++) {
            PROBE.due("second of " + k, runner.second(k), k % 4 == 0);
            PROBE.due("status of " + k, runner.status(k), k == 3 ? 0 : k == 2 ? 3 : 1);
        }
    }
}
