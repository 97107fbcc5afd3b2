import java.util.ArrayList;
import java.util.List;
import java.util.Random;

/**
 * The class against the Model, on made-up sources: every answer that it gives has to be the model's. The sources are the
 * same each time, so a failure can be had again; an argument tells how many there are to be, another one their seed.
 */
public final class ModelTest {
    private static final Probe PROBE = new Probe("ModelTest");
    private static final String SIGNS = "()+-*/%<>=!&|,;:_ GWTECDMNOXabz019";
    private static Random random = new Random(11);
    private static final int[] JUDGED = new int[6];
    private static final int[] ENDED = new int[4];
    private static int drawings;
    private static int seconds;

    /** The variables that may be used, so that most sources are features. */
    private static String known = "";

    public static void main(String[] args) {
        int sources = args.length > 0 ? Integer.parseInt(args[0]) : 12000;
        if (args.length > 1) {
            random = new Random(Long.parseLong(args[1]));
        }
        for (int i = 0; i < sources; i++) {
            String source = feature();
            while (source.length() > 120) {
                source = feature();
            }
            for (int change = one(3) ? 1 + random.nextInt(2) : 0; change > 0; change--) {
                source = changed(source);
            }
            compare(source);
        }
        for (int verdict = 0; verdict < JUDGED.length; verdict++) {
            PROBE.due("sources of verdict " + verdict, JUDGED[verdict] > 50, true);
        }
        for (int status = 0; status < ENDED.length; status++) {
            PROBE.due("iterations of status " + status, ENDED[status] > 200, true);
        }
        PROBE.due("drawings and second failures", drawings > 200 && seconds > 50, true);
        PROBE.finish();
    }

    private static void compare(String source) {
        Model model = new Model(source);
        SpecRunner runner = new SpecRunner();
        Probe.type(runner, source);
        PROBE.due("judge of " + source, runner.judge(), model.verdict);
        PROBE.due("place of " + source, runner.place(), model.place);
        JUDGED[model.verdict]++;
        if (model.verdict != 0) {
            PROBE.due("run of " + source, runner.run(), SpecRunner.BAD);
            return;
        }
        List<Model.Iteration> due = model.run();
        PROBE.due("run of " + source, runner.run(), due.stream().filter(i -> i.status != 0).count());
        PROBE.due("iterations of " + source, runner.iterations(), due.size());
        for (int k = 0; k < due.size(); k++) {
            compare(source, runner, k, due.get(k));
        }
    }

    private static void compare(String source, SpecRunner runner, int k, Model.Iteration due) {
        String which = "(" + k + ") of " + source;
        ENDED[due.status]++;
        drawings += due.lines.size() > 1 ? 1 : 0;
        seconds += due.second ? 1 : 0;
        PROBE.due("status" + which, runner.status(k), due.status);
        PROBE.due("failedAt" + which, runner.failedAt(k), due.failedAt);
        PROBE.due("second" + which, runner.second(k), due.second);
        for (int v = 0; v < 26; v++) {
            if (due.variables[v] != 0 || v < 3 || v == 25) {
                PROBE.due("variable " + v + which, runner.variable(k, v), due.variables[v]);
            }
        }
        PROBE.due("calls of M" + which, runner.calls(k, 0), due.calls[0]);
        PROBE.due("calls of N" + which, runner.calls(k, 1), due.calls[1]);
        if (runner.values(k) != 0 || runner.lines(k) != 0 || !due.lines.isEmpty()) {
            compareDrawing(source, k, due);
        }
    }

    /** Each line is asked of an object of its own, since an object answers for 512 calls alone. */
    private static void compareDrawing(String source, int k, Model.Iteration due) {
        String which = "(" + k + ") of " + source;
        SpecRunner runner = ran(source);
        PROBE.due("values" + which, runner.values(k), due.values.size());
        List<Integer> columns = new ArrayList<>(due.values.keySet());
        for (int j = 0; j < columns.size(); j++) {
            PROBE.due("column" + which, runner.column(k, j), columns.get(j));
            PROBE.due("value" + which, runner.value(k, j), due.values.get(columns.get(j)));
        }
        PROBE.due("column behind the last" + which, runner.column(k, columns.size()), -1);
        PROBE.due("lines" + which, runner.lines(k), due.lines.size());
        PROBE.due("drawn below" + which, runner.drawn(k, due.lines.size(), 0), 0);
        for (int line = 0; line < due.lines.size(); line++) {
            SpecRunner asked = ran(source);
            StringBuilder text = new StringBuilder();
            int width = Math.max(due.lines.get(0).length(), due.lines.get(line).length()) + 3;
            for (int column = 0; column < width; column++) {
                text.append((char) asked.drawn(k, line, column));
            }
            PROBE.due("line " + line + which, text.toString(), (due.lines.get(line) + " ".repeat(width)).substring(0, width));
        }
    }

    private static SpecRunner ran(String source) {
        SpecRunner runner = new SpecRunner();
        Probe.type(runner, source);
        runner.judge();
        runner.run();
        return runner;
    }

    private static boolean one(int in) {
        return random.nextInt(in) == 0;
    }

    private static String of(String... some) {
        return some[random.nextInt(some.length)];
    }

    private static String space() {
        return one(12) ? " " : "";
    }

    private static String feature() {
        String header = "";
        known = "";
        if (one(3)) {
            int columns = one(20) ? 5 : 1 + random.nextInt(3);
            for (int c = 0; c < columns; c++) {
                header += one(40) ? "d" : "" + (char) ('d' + c);
            }
        }
        known = header;
        StringBuilder source = new StringBuilder(space());
        if (!one(3)) {
            source.append("G").append(space()).append(":").append(steps());
        }
        for (int parts = one(3) ? 2 : 1; parts > 0; parts--) {
            source.append(one(3) ? "E:" + expressions() : "W:" + steps() + space() + "T:" + claims());
        }
        if (one(3)) {
            source.append("C:").append(space()).append(steps());
        }
        return header.isEmpty() ? source.toString() : source.append(table(header)).toString();
    }

    private static String table(String header) {
        StringBuilder table = new StringBuilder("D:");
        for (int c = 0; c < header.length(); c++) {
            table.append(c == 0 ? "" : bar()).append(header.charAt(c));
        }
        int rows = one(20) ? 7 : 1 + random.nextInt(3);
        for (int r = 0; r < rows; r++) {
            int sums = one(40) ? header.length() + 1 : header.length();
            for (int c = 0; c < sums; c++) {
                known = one(40) ? header : header.substring(0, Math.min(c, header.length()));
                table.append(c == 0 ? ";" : bar()).append(chain(3, one(6) ? 2 : 4, false)).append(space());
            }
        }
        return table.toString();
    }

    private static String bar() {
        return space() + of("|", "||");
    }

    private static String steps() {
        StringBuilder steps = new StringBuilder();
        for (int n = 1 + random.nextInt(3); n > 0; n--) {
            String assigned = one(60) ? "d" : of("a", "b", "c", "z");
            String expression = chain(one(3) ? 0 : 3, 1 + random.nextInt(3), false);
            if (one(3)) {
                steps.append(expression);
            } else {
                steps.append(assigned).append(space()).append("=").append(expression);
                known += assigned;
            }
            steps.append(space()).append(n > 1 ? ";" : "");
        }
        return steps.toString();
    }

    private static String expressions() {
        StringBuilder expressions = new StringBuilder(chain(0, 0, false));
        while (one(2)) {
            expressions.append(";").append(space()).append(chain(0, random.nextInt(3), false));
        }
        return expressions.toString();
    }

    private static String claims() {
        StringBuilder claims = new StringBuilder(claim());
        while (one(2)) {
            claims.append(space()).append(";").append(claim());
        }
        return claims.toString();
    }

    private static String claim() {
        switch (random.nextInt(6)) {
            case 0:
                return of("X", "!X", "! X", "X;1");
            case 1:
            case 2:
                String most = one(2) ? "" : "-" + (one(2) ? "_" : "" + random.nextInt(4));
                String answers = of("", ">>3", ">>-2,0", ">>1,2, 3", ">>0,-9999");
                return random.nextInt(3) + space() + most + "*" + of("M", "N") + "(" + of("_", "1", "0", "!1", "! 0") + ")"
                    + answers;
            default:
                return chain(0, random.nextInt(3), true);
        }
    }

    private static final String[][] OPERATORS = {
        {"||"}, {"&&"}, {"==", "!=", "<", "<=", ">", ">="}, {"+", "-"}, {"*", "/", "%"}
    };

    /** Operands of a level with its operators between them: the deeper, the fewer of them. */
    private static String chain(int level, int deep, boolean old) {
        if (level == OPERATORS.length) {
            return unary(deep, old);
        }
        StringBuilder chain = new StringBuilder(chain(level + 1, deep, old));
        int most = level == 2 ? 1 : 2;
        for (int n = 0; n < most && one(4 + deep); n++) {
            chain.append(space()).append(of(OPERATORS[level])).append(space()).append(chain(level + 1, deep, old));
        }
        return chain.toString();
    }

    private static String unary(int deep, boolean old) {
        int kind = random.nextInt(deep > 4 ? 5 : 12);
        if (kind < 3) {
            return one(30) ? of("9999", "12345", "0012", "1000") : "" + random.nextInt(4);
        }
        if (kind < 7) {
            return known.isEmpty() || one(60) ? of("1", "1", "1", "x") : "" + known.charAt(random.nextInt(known.length()));
        }
        if (kind < 9) {
            return of("M", "N") + space() + "(" + chain(0, deep + 1, old) + ")";
        }
        if (kind < 10) {
            return "(" + space() + chain(0, deep + 1, old) + ")";
        }
        if (kind < 11 && (old || one(60))) {
            return "O(" + chain(0, deep + 1, one(40)) + ")";
        }
        return of("-", "!") + space() + unary(deep + 1, old);
    }

    private static String changed(String source) {
        int at = random.nextInt(source.length() + 1);
        String sign = "" + SIGNS.charAt(random.nextInt(SIGNS.length()));
        switch (random.nextInt(3)) {
            case 0:
                return source.length() == 120 ? source : source.substring(0, at) + sign + source.substring(at);
            case 1:
                return source.substring(0, at) + (at < source.length() ? sign + source.substring(at + 1) : "");
            default:
                return source.substring(0, at) + (at < source.length() ? source.substring(at + 1) : "");
        }
    }
}
