import java.util.Arrays;
import java.util.Random;

/** The boundary cases of the drawing: promises 13 to 17 (values, column, value, lines, drawn). */
public final class DrawingEdgesTest {
    private static final Probe PROBE = new Probe("DrawingEdgesTest");
    private static final String EXTREMES = "G:i=8192;i=i*i*32;j=i-1 E:";
    private static final int[] FAR = {Integer.MIN_VALUE, Integer.MIN_VALUE + 1, -120, -1, 120, 1000, Integer.MAX_VALUE};

    public static void main(String[] args) {
        whoseFailure();
        whatHasAValue();
        whatWasEvaluated();
        whatHasNone();
        fromTheLeft();
        columns();
        lineZero();
        lineOne();
        withoutValues();
        decimals();
        roomBehindAValue();
        barsStandThere();
        firstLineWithRoom();
        asTheWordsSay();
        noValues();
        noColumn();
        noValue();
        noLines();
        nothingDrawn();
        PROBE.finish();
    }

    private static SpecRunner draws(String source, String... lines) {
        SpecRunner runner = PROBE.ran(source, 1);
        PROBE.due("lines of " + source, runner.lines(0), lines.length);
        PROBE.due("drawing of " + source, Probe.drawing(runner, 0), String.join("\n", lines) + "\n");
        return runner;
    }

    /** The values of the drawing as columns and what stands there, in turn. */
    private static void has(String source, int... columnsAndValues) {
        SpecRunner runner = PROBE.ran(source, 1);
        PROBE.due("values of " + source, runner.values(0), columnsAndValues.length / 2);
        for (int j = 0; j < columnsAndValues.length / 2; j++) {
            PROBE.due("column " + j + " of " + source, runner.column(0, j), columnsAndValues[2 * j]);
            PROBE.due("value " + j + " of " + source, runner.value(0, j), columnsAndValues[2 * j + 1]);
        }
    }

    private static void whoseFailure() {
        PROBE.sentence("THE DRAWING of an iteration whose failure was an expression that was not true");
        String[] without = {"E:1", "E:1/0", "W:1T:X", "W:1/0T:X;!X", "W:M(1)T:0*M(_)", "W:1T:1*M(_)", "G:1/0E:0", "W:1/0T:0",
            "W:1T:O(1/0)", "E:1C:1/0", "W:1T:1;X;0", "E:1C:0", "G:0E:1", "E:0D:a;1/0"};
        for (String source : without) {
            SpecRunner runner = new SpecRunner();
            Probe.type(runner, source);
            PROBE.due("judge of " + source, runner.judge(), 0);
            runner.run();
            PROBE.due("lines of " + source, runner.lines(0), 0);
            PROBE.due("values of " + source, runner.values(0), 0);
        }
        draws("E:0", "0");
        draws("E:1;0", "0");
        draws("W:1T:1;0", "0");
        draws("W:1/0T:X;0", "0");
        draws("E:0C:1/0", "0");
        draws("W:1T:0;1*M(_)", "0");
        SpecRunner runner = draws("G:a=0E:a", "a", "|", "0");
        for (String source : without) {
            Probe.type(runner, source);
            runner.judge();
            runner.run();
            PROBE.due("drawing of " + source + " behind one with a drawing", Probe.drawing(runner, 0), "");
            PROBE.due("its values", runner.values(0), 0);
            Probe.type(runner, "G:a=0E:a");
            runner.judge();
            runner.run();
            PROBE.due("drawing behind " + source, Probe.drawing(runner, 0), "a\n|\n0\n");
        }
    }

    private static void whatHasAValue() {
        PROBE.sentence("for each variable, call of M or N, O, sign (- or ! before something) and operator between two"
            + " sides in the expression that was evaluated there is a VALUE");
        has("G:a=0E:a", 0, 0);
        has("E:M(1)", 0, 0);
        has("E:N(1)", 0, 0);
        has("W:1T:O(0)", 0, 0);
        has("E:-0", 0, 0);
        has("E:!1", 0, 0);
        for (String operator : new String[] {"&&", "*", "%", "==", "<=", "<"}) {
            has("E:" + (operator.equals("%") || operator.startsWith("<") ? "2" : "0") + operator + "1", 1, 0);
        }
        has("E:0||0", 1, 0);
        has("E:0+0", 1, 0);
        has("E:0-0", 1, 0);
        has("E:0/1", 1, 0);
        has("E:1!=1", 1, 0);
        has("E:1>1", 1, 0);
        has("E:1>=2", 1, 0);
        has("E:!(!M(4)+N(4)+-5*-5)", 0, 0, 2, 1, 3, 0, 7, 1, 8, 0, 12, 26, 13, -5, 15, 25, 16, -5);
        has("W:a=3T:M(O(a)-a)", 0, 0, 2, 0, 6, -3, 7, 3);
    }

    private static void whatWasEvaluated() {
        PROBE.sentence("in the expression that was evaluated");
        has("G:a=0E:a&&a", 0, 0, 1, 0);
        has("G:a=0E:a&&a&&a", 0, 0, 1, 0, 4, 0);
        has("G:a=0E:a||a", 0, 0, 1, 0, 3, 0);
        has("G:a=2E:0*(a||a)", 1, 0, 3, 2, 4, 1);
        has("G:a=0E:a&&M(-a)||a", 0, 0, 1, 0, 8, 0, 10, 0);
        has("G:a=2E:!(a||!a&&N(a))", 0, 0, 2, 2, 3, 1);
        has("W:1T:0&&O(1)", 1, 0);
        has("W:1T:1&&O(0)", 1, 0, 3, 0);
    }

    private static void whatHasNone() {
        PROBE.sentence("(What stands in an O has none; nor have numbers.");
        has("E:0");
        has("E:((0))");
        has("W:a=1T:O(a+M(1)*-a)", 0, 0);
        has("W:a=1T:O(a+M(1)*-a)*a", 0, 0, 12, 0, 13, 1);
        has("W:a=1T:a-1;O(1)", 0, 1, 1, 0);
    }

    private static void fromTheLeft() {
        PROBE.sentence("The operators of one level belong together from the left.)");
        has("E:9-4-5", 1, 5, 3, 0);
        has("E:9-4+5-10", 1, 5, 3, 10, 5, 0);
        has("E:9/2*2%4", 1, 4, 3, 8, 5, 0);
        has("E:1&&1&&0", 1, 1, 4, 0);
        has("E:0||0||0", 1, 0, 4, 0);
        has("E:1+2*3-7", 1, 7, 3, 6, 5, 0);
        has("E:2*3-6", 1, 6, 3, 0);
    }

    private static void columns() {
        PROBE.sentence("at its COLUMN: the place of the variable, M, N, O, sign or operator, less the place of the"
            + " expression.");
        has("G:a=0E:a", 0, 0);
        has("G:a=0E:1;1;   a", 0, 0);
        has("E: ( -0 ) ", 2, 0);
        has("E:1  <=  0", 3, 0);
        has("E:0" + " ".repeat(115) + "*1", 116, 0);
        has("E:-0" + " ".repeat(114) + "*1", 0, 0, 116, 0);
        has("E:1" + " ".repeat(114) + "*0", 115, 0);
        has("W:1T:1;1;0" + " ".repeat(108) + "*1", 109, 0);
        has("E:1;" + " ".repeat(115) + "0");
    }

    private static void lineZero() {
        PROBE.sentence("LINE 0 is the source from the expression's first token to the end of its last one.");
        draws("E:  0  ", "0");
        draws("E:1; 000 ;1", "000");
        draws("E:1;(  0  )  ;1", "(  0  )");
        draws("E:0C:1", "0");
        draws("E:0  D:a;1", "0");
        draws("W:1T:1; 0 W:1T:1", "0");
        String longest = "(" + " ".repeat(58) + "0" + " ".repeat(57) + ")";
        SpecRunner runner = draws("E:" + longest, longest);
        PROBE.due("the last character", runner.drawn(0, 0, 117), ')');
        PROBE.due("behind it", runner.drawn(0, 0, 118), ' ');
    }

    private static void lineOne() {
        PROBE.sentence("Line 1 has a | at the column of each value.");
        SpecRunner runner = PROBE.ran("G:a=0E:a" + "+a".repeat(56), 1);
        for (int column = 0; column < 125; column++) {
            PROBE.due("line 1 at " + column, runner.drawn(0, 1, column), column < 113 ? '|' : ' ');
        }
        runner = PROBE.ran("E:0" + " ".repeat(115) + "*1", 1);
        for (int column = 0; column < 125; column++) {
            PROBE.due("line 1 at " + column, runner.drawn(0, 1, column), column == 116 ? '|' : ' ');
            PROBE.due("line 2 at " + column, runner.drawn(0, 2, column), column == 116 ? '0' : ' ');
        }
    }

    private static void withoutValues() {
        PROBE.sentence("Without values there is line 0 alone.");
        SpecRunner runner = draws("E:0", "0");
        PROBE.due("lines", runner.lines(0), 1);
        PROBE.due("values", runner.values(0), 0);
        PROBE.due("line 0", runner.drawn(0, 0, 0), '0');
        PROBE.due("line 1", runner.drawn(0, 1, 0), 0);
        PROBE.due("lines with one value", draws("E:-0", "-0", "|", "0").lines(0), 3);
    }

    private static void decimals() {
        PROBE.sentence("a value is written (in decimal, a - before it when it is below 0) from its column on");
        String[] steps = {"0", "1", "9", "10", "99", "100", "1000", "9999", "-1", "-9", "-10", "-9999", "9999*9999",
            "-9999*9999*21", "1000*1000*1000", "-1000*1000*1000", "8192*8192*32", "8192*8192*32-1", "8192*8192*32+1"};
        int[] values = {0, 1, 9, 10, 99, 100, 1000, 9999, -1, -9, -10, -9999, 99980001, -2099580021, 1000000000, -1000000000,
            Integer.MIN_VALUE, Integer.MAX_VALUE, Integer.MIN_VALUE + 1};
        for (int i = 0; i < steps.length; i++) {
            draws("G:a=" + steps[i] + " E:0*a", "0*a", " ||", " |" + values[i], " 0");
            draws("G:a=" + steps[i] + " E:0&&1||a*0", "0&&1||a*0", " |  | ||", " 0  0 |0", "      " + values[i]);
        }
    }

    /** Widths from 1 to 11: a value before a | that is as near as it may be, and one nearer. */
    private static void roomBehindAValue() {
        PROBE.sentence("into the first line from line 2 on in which nothing stands yet, or everything that stands there"
            + " begins more than one column behind the value's last character");
        String[] steps = {"7", "10", "100", "1000", "1000*10", "1000*100", "1000*1000", "9999*9999", "9999*9999*2",
            "8192*8192*32-1", "8192*8192*32", "-7", "-10", "-9999", "-9999*9999"};
        for (String step : steps) {
            SpecRunner told = PROBE.ran("G:a=" + step + " E:a*0", 1);
            String value = Integer.toString(told.value(0, 0));
            for (int gap = 0; gap < 15; gap++) {
                String text = "a" + " ".repeat(gap) + "*0";
                String bars = "|" + " ".repeat(gap) + "|";
                int column = gap + 1;
                if (column - (value.length() - 1) > 1) {
                    draws("G:a=" + step + " E:" + text, text, bars, value + " ".repeat(column - value.length()) + "0");
                } else {
                    draws("G:a=" + step + " E:" + text, text, bars, "|" + " ".repeat(gap) + "0", value);
                }
            }
        }
    }

    private static void barsStandThere() {
        PROBE.sentence("and in each line from 2 on before that one a | is put at its column");
        draws("G:a=10;b=10 E:a*b *0",
            "a*b *0",
            "||| |",
            "||| 0",
            "||10",
            "|100",
            "10");
        draws("G:a=10;b=20 E:0*a  -b*0",
            "0*a  -b*0",
            " ||  |||",
            " |10 ||0",
            " 0   |20",
            "     0");
        draws("G:a=10;b=20 E:0*a -b*0",
            "0*a -b*0",
            " || |||",
            " || ||0",
            " || |20",
            " || 0",
            " |10",
            " 0");
    }

    private static void firstLineWithRoom() {
        PROBE.sentence("Then the values are gone through from the greatest column to the least");
        draws("G:a=1234 E:0*a+0", "0*a+0", " |||", " ||0", " |1234", " 0");
        draws("G:a=1234 E:0  *0*a+0", "0  *0*a+0", "   | |||", "   0 ||0", "     |1234", "     0");
        draws("G:a=1;b=1 E:a-b", "a-b", "|||", "||1", "|0", "1");
        SpecRunner runner = PROBE.ran("G:a=0E:a" + "+a".repeat(56), 1);
        PROBE.due("113 values, each in a line of its own", runner.lines(0), 115);
        for (int line = 2; line < 115; line++) {
            PROBE.due("the value of line " + line, runner.drawn(0, line, 114 - line), '0');
            PROBE.due("a | before it", runner.drawn(0, line, 113 - line), line < 114 ? '|' : 0);
            PROBE.due("nothing behind it", runner.drawn(0, line, 115 - line), ' ');
        }
    }

    /** Draws by the document's words on a sheet of characters. */
    private static String drawn(String text, SpecRunner runner) {
        int values = runner.values(0);
        char[][] sheet = new char[2 + values][200];
        for (char[] line : sheet) {
            Arrays.fill(line, ' ');
        }
        text.getChars(0, text.length(), sheet[0], 0);
        int lines = values == 0 ? 1 : 2;
        for (int j = values - 1; j >= 0; j--) {
            int column = runner.column(0, j);
            String value = Integer.toString(runner.value(0, j));
            int line = 2;
            while (!hasRoom(sheet[line], column + value.length() - 1)) {
                line++;
            }
            for (int above = 1; above < line; above++) {
                sheet[above][column] = '|';
            }
            value.getChars(0, value.length(), sheet[line], column);
            lines = Math.max(lines, line + 1);
        }
        StringBuilder all = new StringBuilder();
        for (int line = 0; line < lines; line++) {
            all.append(new String(sheet[line]).stripTrailing()).append('\n');
        }
        return all.toString();
    }

    private static boolean hasRoom(char[] line, int last) {
        for (int column = 0; column < line.length; column++) {
            if (line[column] != ' ') {
                return column - last > 1;
            }
        }
        return true;
    }

    private static void asTheWordsSay() {
        PROBE.sentence("a value is written (in decimal, a - before it when it is below 0) from its column on into the"
            + " first line from line 2 on in which nothing stands yet");
        Random random = new Random(11);
        String[] atoms = {"a", "b", "c", "-a", "!b", "M(a)", "N(c)", "(a-b)", "7", "c*c", "b*c"};
        String[] operators = {"+", "-", "*", "==", "&&", "||", "  +", " -  ", "   *  "};
        for (int turn = 0; turn < 4000; turn++) {
            StringBuilder text = new StringBuilder("0*(");
            int terms = 1 + random.nextInt(14);
            int comparisons = 0;
            for (int term = 0; term < terms && text.length() < 70; term++) {
                String operator = operators[random.nextInt(operators.length)];
                comparisons = operator.equals("==") ? comparisons + 1 : comparisons;
                text.append(term == 0 ? "" : operator.equals("==") && comparisons > 1 ? "+" : operator);
                text.append(atoms[random.nextInt(atoms.length)]).append(" ".repeat(random.nextInt(3)));
            }
            text.append(")");
            int b = random.nextInt(3) == 0 ? random.nextInt(10000) : random.nextInt(12);
            String given = "G:a=" + random.nextInt(3) + ";b=" + b + ";c=-" + random.nextInt(10000);
            SpecRunner runner = PROBE.ran(given + " E:" + text, 1);
            PROBE.due("drawing of " + text, Probe.drawing(runner, 0), drawn(text.toString(), runner));
        }
    }

    private static void noValues() {
        PROBE.sentence("The number of values in the drawing of iteration k; 0 when it has none (also when it has no"
            + " drawing).");
        SpecRunner runner = PROBE.ran("E:a;0D:a;0;1;1/0", 3);
        int[] due = {1, 0, 0, 0, 0, 0, 0};
        for (int k = 0; k < 7; k++) {
            PROBE.due("values of " + k, runner.values(k), due[k]);
        }
        for (int k : FAR) {
            PROBE.due("values of " + k, runner.values(k), 0);
        }
        PROBE.due("values before any run", new SpecRunner().values(0), 0);
        PROBE.due("as many as there may be", PROBE.ran("E:a" + "+a".repeat(56) + "D:a;0", 1).values(0), 113);
    }

    private static void noColumn() {
        PROBE.sentence("The column of value j (from 0, by rising columns) in the drawing of iteration k; -1 when there"
            + " is none.");
        SpecRunner runner = PROBE.ran("E:0;1D:a;0;1", 2);
        PROBE.due("column of a drawing without values", runner.column(0, 0), -1);
        runner = PROBE.ran("E:a*bD:a|b;2|0;1|1;1/0|1", 2);
        for (int j = 0; j < 3; j++) {
            PROBE.due("column " + j, runner.column(0, j), j);
            PROBE.due("column " + j + " without a drawing", runner.column(1, j), -1);
            PROBE.due("column " + j + " without a drawing", runner.column(2, j), -1);
            PROBE.due("column " + j + " without an iteration", runner.column(3, j), -1);
        }
        PROBE.due("column 3", runner.column(0, 3), -1);
        for (int far : FAR) {
            PROBE.due("column " + far, runner.column(0, far), -1);
            PROBE.due("column of " + far, runner.column(far, 0), -1);
        }
    }

    private static void noValue() {
        PROBE.sentence("Value j in the drawing of iteration k; 0 when there is none.");
        SpecRunner runner = PROBE.ran("E:a+b+1D:a|b;2|-3;1|1;1/0|1", 2);
        int[] due = {2, -1, -3, 0};
        for (int j = 0; j < 4; j++) {
            PROBE.due("value " + j, runner.value(0, j), due[j]);
            PROBE.due("value " + j + " without a drawing", runner.value(1, j), 0);
            PROBE.due("value " + j + " without a drawing", runner.value(2, j), 0);
            PROBE.due("value " + j + " without an iteration", runner.value(3, j), 0);
        }
        for (int far : FAR) {
            PROBE.due("value " + far, runner.value(0, far), 0);
            PROBE.due("value of " + far, runner.value(far, 0), 0);
        }
        runner = PROBE.ran(EXTREMES + "(i+j)*0", 1);
        PROBE.due("the least value", runner.value(0, 0), Integer.MIN_VALUE);
        PROBE.due("the greatest value", runner.value(0, 2), Integer.MAX_VALUE);
    }

    private static void noLines() {
        PROBE.sentence("The number of lines of the drawing of iteration k; 0 when it has none.");
        SpecRunner runner = PROBE.ran("E:a;0D:a;0;1;1/0", 3);
        int[] due = {3, 1, 0, 0, 0, 0, 0};
        for (int k = 0; k < 7; k++) {
            PROBE.due("lines of " + k, runner.lines(k), due[k]);
        }
        for (int far : FAR) {
            PROBE.due("lines of " + far, runner.lines(far), 0);
        }
        PROBE.due("lines before any run", new SpecRunner().lines(0), 0);
    }

    private static void nothingDrawn() {
        PROBE.sentence("32 (a space) where nothing stands (however far right); 0 when there is no such line or the"
            + " column is below 0");
        SpecRunner runner = PROBE.ran("E:a*0D:a;5;1/0", 2);
        String[] due = {"a*0", "||", "|0", "5"};
        for (int line = 0; line < 4; line++) {
            for (int column = 0; column < 130; column++) {
                char c = column < due[line].length() ? due[line].charAt(column) : ' ';
                PROBE.due("drawn " + line + ", " + column, runner.drawn(0, line, column), c);
                PROBE.due("drawn without a drawing", runner.drawn(1, line, column), 0);
                PROBE.due("drawn without an iteration", runner.drawn(2, line, column), 0);
            }
            for (int far : FAR) {
                PROBE.due("drawn " + line + ", " + far, runner.drawn(0, line, far), far < 0 ? 0 : ' ');
                PROBE.due("drawn of " + far, runner.drawn(far, line, 0), 0);
            }
        }
        for (int column : new int[] {Integer.MIN_VALUE, -1, 0, 1, 5, Integer.MAX_VALUE}) {
            PROBE.due("line 4", runner.drawn(0, 4, column), 0);
            for (int far : FAR) {
                PROBE.due("line " + far, runner.drawn(0, far, column), 0);
            }
        }
        PROBE.due("drawn before any run", new SpecRunner().drawn(0, 0, 0), 0);
    }
}
