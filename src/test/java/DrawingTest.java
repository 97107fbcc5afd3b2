/** Promises 13 to 17: values, column, value, lines and drawn. */
public final class DrawingTest {
    private static final Probe PROBE = new Probe("DrawingTest");

    public static void main(String[] args) {
        pictures();
        whatHasValues();
        shortCuts();
        wideValues();
        whatHasNoDrawing();
        ofEachIteration();
        laterSources();
        outOfRange();
        PROBE.finish();
    }

    private static SpecRunner draws(String source, String... lines) {
        SpecRunner runner = PROBE.ran(source, 1);
        PROBE.due("lines of " + source, runner.lines(0), lines.length);
        PROBE.due("drawing of " + source, Probe.drawing(runner, 0), String.join("\n", lines) + "\n");
        return runner;
    }

    private static void columns(SpecRunner runner, int... columnsAndValues) {
        PROBE.due("values", runner.values(0), columnsAndValues.length / 2);
        for (int j = 0; j < columnsAndValues.length / 2; j++) {
            PROBE.due("column " + j, runner.column(0, j), columnsAndValues[2 * j]);
            PROBE.due("value " + j, runner.value(0, j), columnsAndValues[2 * j + 1]);
        }
    }

    private static void pictures() {
        columns(draws("G: a = 3; b = a*2 E: a+b == 9; a + b*2 < M(a)",
            "a + b*2 < M(a)",
            "| | ||  | | |",
            "3 | |12 0 0 3",
            "  | 6",
            "  15"), 0, 3, 2, 15, 4, 6, 5, 12, 8, 0, 10, 0, 12, 3);
        columns(draws("G:a=1 W:a=a+4;a=a/(a-5);a=9 T:X;O(a)==1;a==5;a-O(a)==5",
            "a-O(a)==5",
            "|||   |",
            "||1   0",
            "|4",
            "5"), 0, 5, 1, 4, 2, 1, 6, 0);
        draws("E:c==a+b D:a|b||c;2|a*2||7",
            "c==a+b",
            "|| |||",
            "|0 ||4",
            "7  |6",
            "   2");
        draws("E: ( 0 ) ;1", "( 0 )");
        draws("E:00", "00");
        draws("E:1;  0*12  ;1", "0*12", " |", " 0");
        draws("G:a=0 E:a", "a", "|", "0");
        draws("W:1 T:1;0*9", "0*9", " |", " 0");
    }

    private static void whatHasValues() {
        columns(draws("G:a=2 E:!-a",
            "!-a",
            "|||",
            "||2",
            "|-2",
            "0"), 0, 0, 1, -2, 2, 2);
        columns(draws("E:!(M(5)+N(1)==0)",
            "!(M(5)+N(1)==0)",
            "| |   ||   |",
            "0 0   |0   1",
            "      0"), 0, 0, 2, 0, 6, 0, 7, 0, 11, 1);
        columns(draws("W:a=7 T:O(M(1)+2)-2", "O(M(1)+2)-2", "|        |", "2        0"), 0, 2, 9, 0);
        columns(draws("E:-5+5", "-5+5", "| |", "| 0", "-5"), 0, -5, 2, 0);
        columns(draws("E:9-4-5", "9-4-5", " | |", " 5 0"), 1, 5, 3, 0);
        columns(draws("E:9/4%2*7", "9/4%2*7", " | | |", " 2 0 0"), 1, 2, 3, 0, 5, 0);
        columns(draws("W:a=M(4)T:1*M(_)>>30;a<=9", "a<=9", "||", "|0", "30"), 0, 30, 1, 0);
    }

    private static void shortCuts() {
        columns(draws("G:a=0 E:a&&a/0&&1", "a&&a/0&&1", "||    |", "|0    0", "0"), 0, 0, 1, 0, 6, 0);
        columns(draws("G:a=0 E:(1||a)==a", "(1||a)==a", "  |   | |", "  1   0 0"), 2, 1, 6, 0, 8, 0);
        columns(draws("G:a=0 E:(2||a||M(a))-1", "(2||a||M(a))-1", "  |  |      |", "  1  1      0"),
            2, 1, 5, 1, 12, 0);
        columns(draws("G:a=0 E:0||a", "0||a", " | |", " 0 0"), 1, 0, 3, 0);
        columns(draws("G:a=0 E:7&&a", "7&&a", " | |", " 0 0"), 1, 0, 3, 0);
        columns(draws("E:(3&&4)-1", "(3&&4)-1", "  |   |", "  1   0"), 2, 1, 6, 0);
        columns(draws("W:1 T:0&&O(5)", "0&&O(5)", " |", " 0"), 1, 0);
    }

    private static void wideValues() {
        columns(draws("G:a=8192;a=a*a*32 E:0*a+0*9",
            "0*a+0*9",
            " ||| |",
            " ||0 0",
            " |-2147483648",
            " 0"), 1, 0, 2, Integer.MIN_VALUE, 3, 0, 5, 0);
        columns(draws("G:a=8192;a=a*a*32-1 E:0*a",
            "0*a",
            " ||",
            " |2147483647",
            " 0"), 1, 0, 2, Integer.MAX_VALUE);
        draws("G:a=10 E:a*0*0", "a*0*0", "|| |", "|0 0", "10");
        draws("G:a=10 E:a *0*0", "a *0*0", "| | |", "| 0 0", "10");
        draws("G:a=10 E:a  *0*0", "a  *0*0", "|  | |", "10 0 0");
        draws("G:a=-1 E:a *0*0", "a *0*0", "| | |", "| 0 0", "-1");
        draws("G:a=-1 E:a  *0*0", "a  *0*0", "|  | |", "-1 0 0");
        draws("G:a=100;b=10 E:a+b *0-100",
            "a+b *0-100",
            "||| | |",
            "||| 0 0",
            "||10",
            "|100",
            "100");
    }

    private static void whatHasNoDrawing() {
        none(PROBE.ends("E:1", 0, -1));
        none(PROBE.ends("W:a=1 T:a;X", 1, 10));
        none(PROBE.ends("W:a=1/0 T:X;!X", 1, 12));
        none(PROBE.ends("G:a=1 E:a/0", 3, 9));
        none(PROBE.ends("W:M(1)T:0*M(1)", 2, 2));
        none(PROBE.ends("W:1 T:1*M(1)", 2, 6));
        none(PROBE.ends("E:1 C:1/0", 3, 7));
        SpecRunner runner = draws("G:a=0 E:a C:a=5;1/0", "a", "|", "0");
        PROBE.due("a second failure leaves the drawing", runner.second(0), true);
        PROBE.due("and its value", runner.value(0, 0), 0);
        PROBE.due("while the variable is another", runner.variable(0, 0), 5);
    }

    private static void none(SpecRunner runner) {
        PROBE.due("no values", runner.values(0), 0);
        PROBE.due("no column", runner.column(0, 0), -1);
        PROBE.due("no value", runner.value(0, 0), 0);
        PROBE.due("no lines", runner.lines(0), 0);
        PROBE.due("nothing drawn", runner.drawn(0, 0, 0), 0);
    }

    private static void ofEachIteration() {
        SpecRunner runner = PROBE.ran("E:a<2;b==a D:a|b;1|1;3|4;1|5", 2);
        PROBE.due("drawing 0", Probe.drawing(runner, 0), "");
        PROBE.due("drawing 1", Probe.drawing(runner, 1), "a<2\n||\n|0\n3\n");
        PROBE.due("drawing 2", Probe.drawing(runner, 2), "b==a\n|| |\n|0 1\n5\n");
        Probe.type(runner, "E:1 D:a|b;1|1;3|4;1|5");
        runner.judge();
        runner.run();
        PROBE.due("the next run has none", Probe.drawing(runner, 1), "");
        PROBE.due("nor values", runner.values(1), 0);
    }

    private static void laterSources() {
        SpecRunner runner = PROBE.ran("G:a=4 E:a==5", 1);
        Probe.type(runner, "E:1+2==4");
        PROBE.due("a source that is typed", Probe.drawing(runner, 0), "a==5\n||\n|0\n4\n");
        runner.judge();
        PROBE.due("and judged", Probe.drawing(runner, 0), "a==5\n||\n|0\n4\n");
        Probe.type(runner, "E:1+2==7;");
        runner.judge();
        runner.run();
        PROBE.due("the feature as it was judged", Probe.drawing(runner, 0), "1+2==4\n | |\n 3 0\n");
    }

    private static void outOfRange() {
        SpecRunner runner = PROBE.ran("G:a=4 E:a==5", 1);
        for (int far : new int[] {4, 5, 119, 120, 121, 1000, Integer.MAX_VALUE}) {
            for (int line = 0; line < 4; line++) {
                PROBE.due("drawn far right", runner.drawn(0, line, far), ' ');
            }
        }
        for (int below : new int[] {-1, Integer.MIN_VALUE}) {
            PROBE.due("a column below 0", runner.drawn(0, 0, below), 0);
            PROBE.due("a column below 0", runner.drawn(0, 2, below), 0);
            PROBE.due("a line below 0", runner.drawn(0, below, 0), 0);
            PROBE.due("column below 0", runner.column(0, below), -1);
            PROBE.due("value below 0", runner.value(0, below), 0);
        }
        for (int line : new int[] {4, 5, 120, Integer.MAX_VALUE}) {
            PROBE.due("no such line", runner.drawn(0, line, 0), 0);
        }
        for (int j : new int[] {2, 3, 119, 120, Integer.MAX_VALUE}) {
            PROBE.due("no such value's column", runner.column(0, j), -1);
            PROBE.due("no such value", runner.value(0, j), 0);
        }
        for (int k : new int[] {Integer.MIN_VALUE, -1, 1, 5, 6, Integer.MAX_VALUE}) {
            PROBE.due("values of no iteration", runner.values(k), 0);
            PROBE.due("column of no iteration", runner.column(k, 0), -1);
            PROBE.due("value of no iteration", runner.value(k, 0), 0);
            PROBE.due("lines of no iteration", runner.lines(k), 0);
            PROBE.due("drawn of no iteration", runner.drawn(k, 0, 0), 0);
        }
    }
}
