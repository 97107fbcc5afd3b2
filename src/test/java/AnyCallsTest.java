import java.util.Random;

/**
 * Calls of every kind in any order: none may throw, and what the drawing's calls answer has to agree. The numbers are
 * the same each time, so a failure can be had again.
 */
public final class AnyCallsTest {
    private static final Probe PROBE = new Probe("AnyCallsTest");
    private static final Random RANDOM = new Random(7);
    private static final String[] PIECES = {
        "G:", "W:", "T:", "E:", "C:", "D:", "a=", "b=", "a", "b", "c", "1", "2", "0", "17", "9999", "12345", "+", "-", "*",
        "/", "%", "==", "!=", "<", "<=", ">", ">=", "&&", "||", "&", "|", ";", ";", ";", ",", "(", ")", "!", "M(", "N(",
        "O(", "X", "_", ">>", " ", "a=1;", "1*M(_)", "0-_*N(!1)>>3,-4", "W:a=M(1)T:", "E:a", "D:a|b;1|2", "M(1)", "1/0"
    };
    private static final int[] EDGES = {Integer.MIN_VALUE, -1, 6, 26, 119, 120, 121, Integer.MAX_VALUE};

    public static void main(String[] args) {
        for (int object = 0; object < 3000; object++) {
            SpecRunner runner = new SpecRunner();
            for (int call = 0; call < 512; call++) {
                anyCall(runner);
            }
        }
        PROBE.finish();
    }

    private static void anyCall(SpecRunner runner) {
        switch (RANDOM.nextInt(12)) {
            case 0:
                runner.type(RANDOM.nextLong(), RANDOM.nextInt(11) - 1);
                break;
            case 1:
                if (RANDOM.nextInt(4) == 0) {
                    runner.clear();
                }
                break;
            case 2:
                int verdict = runner.judge();
                PROBE.due("judge and place", verdict >= 0 && verdict <= 5 && verdict == 0 == (runner.place() == -1), true);
                break;
            case 3:
                int failed = runner.run();
                PROBE.due("run", failed >= -1 && failed <= runner.iterations(), true);
                break;
            case 4:
                agree(runner, RANDOM.nextInt(7));
                break;
            case 5:
                answers(runner);
                break;
            default:
                String piece = PIECES[RANDOM.nextInt(PIECES.length)];
                for (int i = 0; i < piece.length(); i++) {
                    runner.type(piece.charAt(i), 1);
                }
                break;
        }
    }

    private static void answers(SpecRunner runner) {
        int k = number();
        int j = number();
        int i = number();
        runner.status(k);
        runner.failedAt(k);
        runner.second(k);
        runner.variable(k, j);
        runner.calls(k, j);
        runner.values(k);
        runner.column(k, j);
        runner.value(k, j);
        runner.lines(k);
        runner.drawn(k, i, j);
    }

    private static int number() {
        return RANDOM.nextInt(3) == 0 ? EDGES[RANDOM.nextInt(EDGES.length)] : RANDOM.nextInt(8);
    }

    /** Every value stands once below its column, with bars from line 1 down to it. */
    private static void agree(SpecRunner runner, int k) {
        int values = runner.values(k);
        for (int j = 0; j < values; j++) {
            int column = runner.column(k, j);
            PROBE.due("rising columns", j == 0 || runner.column(k, j - 1) < column, true);
            PROBE.due("the first bar", runner.drawn(k, 1, column), '|');
            int line = 2;
            while (line < runner.lines(k) && runner.drawn(k, line, column) == '|') {
                line++;
            }
            StringBuilder text = new StringBuilder();
            String due = Integer.toString(runner.value(k, j));
            for (int i = 0; i < due.length(); i++) {
                text.append((char) runner.drawn(k, line, column + i));
            }
            PROBE.due("value " + j, text.toString(), due);
            PROBE.due("room behind it", runner.drawn(k, line, column + due.length()), ' ');
        }
        PROBE.due("lines without values", values > 0 ? runner.lines(k) >= 3 : runner.lines(k) <= 1, true);
    }
}
