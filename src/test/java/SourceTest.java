/** Promises 1 (a new object), 2 (type) and 3 (clear), and what place, run and iterations say before there is anything. */
public final class SourceTest {
    private static final Probe PROBE = new Probe("SourceTest");

    public static void main(String[] args) {
        newObject();
        characters();
        numbersOfCharacters();
        order();
        longest();
        clearing();
        PROBE.due("BAD", SpecRunner.BAD, -1);
        PROBE.finish();
    }

    private static void newObject() {
        SpecRunner runner = new SpecRunner();
        PROBE.due("new place", runner.place(), -1);
        PROBE.due("new run", runner.run(), SpecRunner.BAD);
        PROBE.due("new iterations", runner.iterations(), 0);
        PROBE.due("new status", runner.status(0), SpecRunner.BAD);
        PROBE.due("new failedAt", runner.failedAt(0), -1);
        PROBE.due("new second", runner.second(0), false);
        PROBE.due("new variable", runner.variable(0, 0), 0);
        PROBE.due("new calls", runner.calls(0, 0), 0);
        PROBE.due("new values", runner.values(0), 0);
        PROBE.due("new column", runner.column(0, 0), -1);
        PROBE.due("new value", runner.value(0, 0), 0);
        PROBE.due("new lines", runner.lines(0), 0);
        PROBE.due("new drawn", runner.drawn(0, 0, 0), 0);
        PROBE.due("new judge", runner.judge(), 1);
        PROBE.due("place of the empty source", runner.place(), 0);
        PROBE.due("run without a feature", runner.run(), SpecRunner.BAD);
    }

    private static void characters() {
        String allowed = "abcdefghijklmnopqrstuvwxyzGWTECDMNOX0123456789 ()+-*/%<>=!&|,;:_";
        for (int c = 0; c < 256; c++) {
            boolean mayBe = allowed.indexOf(c) >= 0;
            PROBE.due("type of character " + c, new SpecRunner().type(c, 1), mayBe);
            PROBE.due("type of 1, character " + c + ", 2", new SpecRunner().type('1' << 16 | c << 8 | '2', 3), mayBe);
        }
        SpecRunner runner = new SpecRunner();
        runner.type(Probe.bytes("E:1"), 3);
        PROBE.due("type of a wrong last character", runner.type(Probe.bytes("+22."), 4), false);
        PROBE.due("type of a wrong first character", runner.type(Probe.bytes("A+22"), 4), false);
        PROBE.due("nothing was added", runner.judge(), 0);
    }

    private static void numbersOfCharacters() {
        long eight = Probe.bytes("11111111");
        for (int n : new int[] {Integer.MIN_VALUE, -1, 0, 9, 16, 64, Integer.MAX_VALUE}) {
            PROBE.due("type of " + n + " characters", new SpecRunner().type(eight, n), false);
        }
        for (int n = 1; n <= 8; n++) {
            SpecRunner runner = new SpecRunner();
            PROBE.due("type of " + n + " characters", runner.type(eight, n), true);
            runner.clear();
            Probe.type(runner, "E:");
            runner.type(Probe.bytes("1+1+1+1+"), n);
            runner.judge();
            // The lowest bytes are the last characters: with an odd number of them the first one is a +.
            PROBE.due("place behind " + n + " characters", runner.place(), n % 2 == 1 ? 2 : 2 + n);
        }
    }

    private static void order() {
        SpecRunner runner = new SpecRunner();
        PROBE.due("bytes above the lowest n don't count", runner.type(-1L << 24 | Probe.bytes("E:7"), 3), true);
        PROBE.due("type with the highest bit clear", runner.type(Probe.bytes("==2;0-12"), 8), true);
        PROBE.due("judge", runner.judge(), 0);
        PROBE.due("run", runner.run(), 1);
        PROBE.due("drawing of the source", Probe.drawing(runner, 0), "7==2\n |\n 0\n");
    }

    private static void longest() {
        SpecRunner runner = new SpecRunner();
        for (int i = 0; i < 14; i++) {
            PROBE.due("type up to 112", runner.type(Probe.bytes("E:1     "), 8), true);
        }
        PROBE.due("type up to 119", runner.type(Probe.bytes("E:1    "), 7), true);
        PROBE.due("type beyond 120", runner.type(Probe.bytes("  "), 2), false);
        PROBE.due("judge of 119", runner.judge(), 0);
        PROBE.due("type up to 120", runner.type(';', 1), true);
        PROBE.due("judge of 120", runner.judge(), 1);
        PROBE.due("place of the end", runner.place(), 120);
        PROBE.due("type beyond 120", runner.type('1', 1), false);
        runner.judge();
        PROBE.due("place of the end", runner.place(), 120);
        runner.clear();
        PROBE.due("type after clear", runner.type('1', 1), true);
    }

    private static void clearing() {
        SpecRunner runner = new SpecRunner();
        Probe.type(runner, "E:0");
        runner.judge();
        runner.clear();
        PROBE.due("the feature stays", runner.run(), 1);
        PROBE.due("the run stays", runner.lines(0), 1);
        PROBE.due("judge of the cleared source", runner.judge(), 1);
        PROBE.due("place of the cleared source", runner.place(), 0);
        Probe.type(runner, "E:1;");
        runner.judge();
        PROBE.due("place", runner.place(), 4);
        runner.clear();
        PROBE.due("clear leaves the place", runner.place(), 4);
        PROBE.due("clear leaves the run", runner.drawn(0, 0, 0), '0');
        PROBE.due("the feature stays when a judge finds none", runner.run(), 1);
    }
}
