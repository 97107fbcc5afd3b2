/** The boundary cases of the calls themselves: promises 6 to 12 with numbers in and out of range, and refused calls. */
public final class CallEdgesTest {
    private static final Probe PROBE = new Probe("CallEdgesTest");
    private static final int[] FAR = {Integer.MIN_VALUE, Integer.MIN_VALUE + 1, -27, -6, -2, -1, 6, 7, 8, 64, 255,
        Integer.MAX_VALUE - 1, Integer.MAX_VALUE};
    /** Iterations that fail in each way, a second time too, with their status, place and second failure. */
    private static final String ALL_WAYS = "W:M(a);N(1)/aT:1*M(!0);X;a-2C:z=a;1/b D:a|b;0|1;1|1;2|0;0|0;0|1%0";
    private static final int[] STATUS = {2, 1, 1, 2, 3};
    private static final int[] FAILED_AT = {15, 23, 23, 15, 63};
    private static final boolean[] SECOND = {false, false, true, true, false};

    public static void main(String[] args) {
        constant();
        runOfNone();
        howManyFailed();
        howManyIterations();
        whichIteration();
        status();
        failedAt();
        second();
        variable();
        calls();
        askingChangesNothing();
        latestRun();
        fiveHundredAndTwelve();
        manyFailures();
        PROBE.finish();
    }

    private static void constant() {
        PROBE.sentence("`BAD = -1`: A number is out of its range.");
        PROBE.due("BAD", SpecRunner.BAD, -1);
    }

    private static void runOfNone() {
        PROBE.sentence("BAD when there is none (the latest run stays then).");
        SpecRunner runner = new SpecRunner();
        String before = Probe.told(runner);
        PROBE.due("run of a new object", runner.run(), SpecRunner.BAD);
        PROBE.due("what it tells", Probe.told(runner), before);
        Probe.type(runner, "E:1");
        PROBE.due("run before the judge", runner.run(), SpecRunner.BAD);
        PROBE.due("iterations", runner.iterations(), 0);
        PROBE.due("what it tells", Probe.told(runner), before);
        runner.type(';', 1);
        PROBE.due("judge", runner.judge(), 1);
        PROBE.due("run behind a judge that found no feature", runner.run(), SpecRunner.BAD);
        PROBE.due("iterations", runner.iterations(), 0);
        Probe.type(runner, "E:0");
        PROBE.due("judge", runner.judge(), 0);
        PROBE.due("iterations before the first run", runner.iterations(), 0);
        PROBE.due("status before the first run", runner.status(0), SpecRunner.BAD);
        PROBE.due("run", runner.run(), 1);
        PROBE.due("iterations behind the first run", runner.iterations(), 1);
    }

    private static void howManyFailed() {
        PROBE.sentence("Runs the feature as it was judged: answers how many iterations failed.");
        PROBE.ran("E:1", 0);
        PROBE.ran("E:0", 1);
        for (int failing = 0; failing <= 6; failing++) {
            PROBE.ran("E:a D:a" + ";0".repeat(failing) + ";1".repeat(6 - failing), failing);
            PROBE.ran("E:a D:a" + ";1".repeat(6 - failing) + ";0".repeat(failing), failing);
        }
        PROBE.due("twice in one iteration", PROBE.ran("E:0C:1/0", 1).run(), 1);
        SpecRunner runner = PROBE.ran("E:0", 1);
        Probe.type(runner, "E:1D:a;1;2");
        PROBE.due("as it was judged, not as it is typed", runner.run(), 1);
        runner.clear();
        PROBE.due("as it was judged, with an empty source", runner.run(), 1);
        PROBE.due("its iterations", runner.iterations(), 1);
    }

    private static void howManyIterations() {
        PROBE.sentence("How many iterations the latest run had; 0 when there was none.");
        SpecRunner runner = new SpecRunner();
        PROBE.due("iterations of a new object", runner.iterations(), 0);
        for (int rows : new int[] {6, 1, 0, 5, 2}) {
            int before = runner.iterations();
            Probe.type(runner, rows == 0 ? "E:1" : "E:1D:a" + ";1".repeat(rows));
            PROBE.due("judge", runner.judge(), 0);
            PROBE.due("iterations before the run", runner.iterations(), before);
            PROBE.due("run", runner.run(), 0);
            PROBE.due("iterations with " + rows + " rows", runner.iterations(), Math.max(1, rows));
        }
    }

    /** Which k is an iteration: 0 up to one less than there are. */
    private static void whichIteration() {
        PROBE.sentence("BAD when there is no such iteration.");
        for (int rows = 0; rows <= 6; rows++) {
            String table = rows == 0 ? "" : "D:a" + ";7".repeat(rows);
            SpecRunner runner = PROBE.ran("G:b=3E:M(b)C:1/0" + table, Math.max(1, rows));
            for (int k = 0; k < 8; k++) {
                is(runner, k, k < Math.max(1, rows));
            }
            for (int k : FAR) {
                is(runner, k, false);
            }
        }
    }

    private static void is(SpecRunner runner, int k, boolean there) {
        PROBE.due("status of " + k, runner.status(k), there ? 1 : SpecRunner.BAD);
        PROBE.due("failedAt of " + k, runner.failedAt(k), there ? 7 : -1);
        PROBE.due("second of " + k, runner.second(k), there);
        PROBE.due("variable of " + k, runner.variable(k, 1), there ? 3 : 0);
        PROBE.due("calls of " + k, runner.calls(k, 0), there ? 1 : 0);
        PROBE.due("values of " + k, runner.values(k), there ? 2 : 0);
        PROBE.due("column of " + k, runner.column(k, 1), there ? 2 : -1);
        PROBE.due("value of " + k, runner.value(k, 1), there ? 3 : 0);
        PROBE.due("lines of " + k, runner.lines(k), there ? 3 : 0);
        PROBE.due("drawn of " + k, runner.drawn(k, 0, 0), there ? 'M' : 0);
    }

    private static void status() {
        PROBE.sentence("How iteration k (from 0) of the latest run failed first: 1, 2 or 3; 0 when it did not fail.");
        SpecRunner runner = PROBE.ran(ALL_WAYS, 5);
        for (int k = 0; k < 5; k++) {
            PROBE.due("status of " + k, runner.status(k), STATUS[k]);
        }
        PROBE.due("status of one that did not fail", PROBE.ran("E:a D:a;0;1;0", 2).status(1), 0);
    }

    private static void failedAt() {
        PROBE.sentence("The place of that; -1 when it did not fail or there is no such iteration.");
        SpecRunner runner = PROBE.ran(ALL_WAYS, 5);
        for (int k = 0; k < 5; k++) {
            PROBE.due("failedAt of " + k, runner.failedAt(k), FAILED_AT[k]);
        }
        runner = PROBE.ran("E:a D:a;0;1;0", 2);
        PROBE.due("failedAt of one that did not fail", runner.failedAt(1), -1);
        PROBE.due("failedAt of the one before", runner.failedAt(0), 2);
        PROBE.due("failedAt of the one behind", runner.failedAt(2), 2);
        PROBE.due("failedAt of none", runner.failedAt(3), -1);
        PROBE.due("failedAt of a new object", new SpecRunner().failedAt(0), -1);
        PROBE.ends("E:1" + " ".repeat(115) + ";0", 1, 119);
        PROBE.ends("E:1" + " ".repeat(115) + "/0", 3, 118);
    }

    private static void second() {
        PROBE.sentence("Whether iteration k had a second failure.");
        SpecRunner runner = PROBE.ran("E:a C:1/b D:a|b;0|0;0|1;1|0;1|1;0|1;0|0", 5);
        for (int k = 0; k < 6; k++) {
            PROBE.due("second of " + k, runner.second(k), k % 5 == 0);
        }
        for (int k : FAR) {
            PROBE.due("second of " + k, runner.second(k), false);
        }
        runner = PROBE.ran(ALL_WAYS, 5);
        for (int k = 0; k < 5; k++) {
            PROBE.due("second of " + k + " of all ways", runner.second(k), SECOND[k]);
        }
        PROBE.due("second of a new object", new SpecRunner().second(0), false);
    }

    private static void variable() {
        PROBE.sentence("The value at the end of iteration k of the variable v (0 for a, 1 for b, ..); 0 when there is"
            + " no such iteration or variable.");
        for (int v = 0; v < 26; v++) {
            char letter = (char) ('a' + v);
            SpecRunner runner = PROBE.ends("G:" + letter + "=5E:1C:" + letter + "=" + letter + "+" + (v + 1), 0, -1);
            for (int other = 0; other < 26; other++) {
                PROBE.due("variable " + other + " with " + letter, runner.variable(0, other), other == v ? v + 6 : 0);
            }
            for (int far : new int[] {Integer.MIN_VALUE, -26, -1, 26, 27, 52, 'a', 'z', 256, Integer.MAX_VALUE}) {
                PROBE.due("variable " + far, runner.variable(0, far), 0);
            }
            PROBE.due("variable of no iteration", runner.variable(1, v), 0);
            PROBE.due("variable of no iteration", runner.variable(-1, v), 0);
        }
        PROBE.due("variable of a new object", new SpecRunner().variable(0, 0), 0);
    }

    private static void calls() {
        PROBE.sentence("How often M (m = 0) or N (m = 1) was called in iteration k; 0 when there is no such iteration"
            + " or m.");
        SpecRunner runner = PROBE.ends("G:M(1);M(2);N(3)E:1", 0, -1);
        PROBE.due("calls of M", runner.calls(0, 0), 2);
        PROBE.due("calls of N", runner.calls(0, 1), 1);
        for (int m : new int[] {Integer.MIN_VALUE, -2, -1, 2, 3, 'M', 'N', 256, Integer.MAX_VALUE}) {
            PROBE.due("calls of " + m, runner.calls(0, m), 0);
        }
        for (int k : FAR) {
            PROBE.due("calls of M in " + k, runner.calls(k, 0), 0);
            PROBE.due("calls of N in " + k, runner.calls(k, 1), 0);
        }
        PROBE.due("calls of a new object", new SpecRunner().calls(0, 0), 0);
        PROBE.due("counted anew in each run", runner.run(), 0);
        PROBE.due("calls of M", runner.calls(0, 0), 2);
    }

    private static void askingChangesNothing() {
        PROBE.sentence("Nothing is promised beyond the answers and state changes described above");
        SpecRunner runner = PROBE.ran(ALL_WAYS, 5);
        String before = Probe.told(runner);
        for (int far : FAR) {
            runner.status(far);
            runner.failedAt(far);
            runner.second(far);
            runner.variable(far, far);
            runner.variable(0, far);
            runner.calls(far, far);
            runner.calls(0, far);
            runner.values(far);
            runner.column(0, far);
            runner.value(0, far);
            runner.lines(far);
            runner.drawn(0, far, 0);
            runner.drawn(0, 0, far);
            runner.type(' ', far > 8 || far < 1 ? far : 0);
        }
        PROBE.due("what the object tells", Probe.told(runner), before);
        PROBE.due("judge of the source as it was", runner.judge(), 0);
        PROBE.due("run of it", runner.run(), 5);
        PROBE.due("what the object tells then", Probe.told(runner), before);
    }

    private static void latestRun() {
        PROBE.sentence("How many iterations the latest run had");
        SpecRunner runner = PROBE.ran(ALL_WAYS, 5);
        String before = Probe.told(runner);
        runner.clear();
        PROBE.due("clear leaves the run", Probe.told(runner), before);
        Probe.type(runner, "E:1");
        PROBE.due("typing leaves the run", Probe.told(runner), before);
        PROBE.due("judge", runner.judge(), 0);
        PROBE.due("a judge leaves the run", Probe.told(runner), before);
        PROBE.due("the run of the next feature", runner.run(), 0);
        for (int k = 1; k < 6; k++) {
            PROBE.due("iteration " + k + " of the run before", runner.status(k), SpecRunner.BAD);
            PROBE.due("its variable", runner.variable(k, 0), 0);
            PROBE.due("its calls", runner.calls(k, 0), 0);
            PROBE.due("its drawing", runner.lines(k), 0);
        }
        Probe.type(runner, "E:a;0C:1/0D:a;0;0;0;0;0;0");
        PROBE.due("judge of one that fails in all rows", runner.judge(), 0);
        PROBE.due("its run", runner.run(), 6);
        Probe.type(runner, "E:1D:a;1;1;1;1;1;1");
        PROBE.due("judge of one that fails in none", runner.judge(), 0);
        PROBE.due("its run", runner.run(), 0);
        SpecRunner fresh = PROBE.ran("E:1D:a;1;1;1;1;1;1", 0);
        PROBE.due("nothing is left of the run before", Probe.told(runner), Probe.told(fresh));
    }

    private static void fiveHundredAndTwelve() {
        PROBE.sentence("An object is used for at most 512 calls after it has been made");
        SpecRunner runner = new SpecRunner();
        int made = 0;
        for (int turn = 0; turn < 63; turn++) {
            runner.clear();
            PROBE.due("type", runner.type(Probe.bytes("E:M(1)-0"), 8), true);
            PROBE.due("type", runner.type(Probe.bytes("C:a=M(1)"), 8), true);
            PROBE.due("type", runner.type(Probe.bytes("+7"), 2), true);
            PROBE.due("judge", runner.judge(), 0);
            PROBE.due("run", runner.run(), 1);
            PROBE.due("variable", runner.variable(0, 0), 7);
            PROBE.due("calls", runner.calls(0, 0), 2);
            made += 8;
        }
        for (int turn = made; turn < 511; turn++) {
            PROBE.due("run " + turn, runner.run(), 1);
        }
        PROBE.due("the 512th call", runner.drawn(0, 2, 4), '0');
        runner = new SpecRunner();
        for (int turn = 0; turn < 120; turn++) {
            PROBE.due("type " + turn, runner.type(' ', 1), true);
        }
        for (int turn = 120; turn < 511; turn++) {
            PROBE.due("type " + turn, runner.type(' ', 1), false);
        }
        PROBE.due("the 512th call", runner.judge(), 1);
    }

    /** Evaluations that are cut short in their midst leave nothing behind, however many there are. */
    private static void manyFailures() {
        PROBE.sentence("An object is used for at most 512 calls after it has been made");
        SpecRunner runner = new SpecRunner();
        Probe.type(runner, "G:b=7W:c=b+2T:O(c)==0E:1-(2-(3-a/0))D:a;1;2;3;4;5;6");
        PROBE.due("judge", runner.judge(), 0);
        for (int turn = 0; turn < 480; turn++) {
            PROBE.due("run " + turn, runner.run(), 6);
        }
        for (int k = 0; k < 6; k++) {
            PROBE.due("status of " + k, runner.status(k), 3);
            PROBE.due("failedAt of " + k, runner.failedAt(k), 32);
            PROBE.due("variable of " + k, runner.variable(k, 2), 9);
        }
    }
}
