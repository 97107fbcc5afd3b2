/** Sources as long as they may be, which fill every table of the class. */
public final class LimitsTest {
    private static final Probe PROBE = new Probe("LimitsTest");

    public static void main(String[] args) {
        statements();
        parts();
        rules();
        answers();
        tables();
        chains();
        drawings();
        reuse();
        PROBE.finish();
    }

    private static void statements() {
        PROBE.ends("E:" + "1;".repeat(58) + "0", 1, 118);
        PROBE.ends("W:1T:" + "1;".repeat(57) + "0", 1, 119);
        SpecRunner runner = PROBE.ends("G:" + "a=1;".repeat(27) + "a=7 E:a", 0, -1);
        PROBE.due("the last step", runner.variable(0, 0), 7);
        PROBE.verdict("E:" + "1;".repeat(59), 1, 120);
    }

    private static void parts() {
        PROBE.ends("E:1".repeat(39) + "E:0", 1, 119);
        PROBE.ends("E:1".repeat(40), 0, -1);
        PROBE.ends("W:1T:1".repeat(19) + "W:1T:X", 1, 119);
    }

    private static void rules() {
        PROBE.ends("W:1T:" + "0*M(_);".repeat(15) + "1*M(_)", 2, 110);
        PROBE.ends("W:1T:" + "0*M(_);".repeat(16) + "0", 1, 117);
        SpecRunner runner = PROBE.ends("W:a=M(1)T:" + "0*M(_);".repeat(14) + "1*M(1)>>12", 0, -1);
        PROBE.due("the answer of the last rule", runner.variable(0, 0), 12);
    }

    private static void answers() {
        PROBE.ends("W:" + "M(1);".repeat(8) + "a=M(1)T:9*M(_)>>1,2,3,4,5,6,7,8,9,10;a==9", 0, -1);
        SpecRunner runner = PROBE.ends("W:a=M(1)T:1*M(_)>>3" + ",4".repeat(50), 0, -1);
        PROBE.due("the first of many answers", runner.variable(0, 0), 3);
    }

    private static void tables() {
        PROBE.verdict("E:1D:a" + ";1".repeat(57), 4, 19);
        PROBE.verdict("E:1D:a;1" + "|1".repeat(56), 4, 7);
        PROBE.verdict("E:1D:a" + "|a".repeat(56) + ";1", 3, 7);
        PROBE.verdict("E:1D:a|b|c|d|e" + "|e".repeat(52) + ";1", 4, 13);
        PROBE.verdict("E:1D:a|b|c|d|e|f|g|h|i|j|k|l|m|n|o|p|q|r|s|t|u|v|w|x|y|z;1", 4, 13);
        SpecRunner runner = PROBE.ran("E:a+b+c+d D:a|b|c|d" + ";1|-1|0|b+1".repeat(6), 6);
        PROBE.due("iterations", runner.iterations(), 6);
        PROBE.due("values of the last", runner.values(5), 7);
    }

    private static void chains() {
        SpecRunner runner = PROBE.ends("E:" + "1+".repeat(57) + "1-1", 0, -1);
        PROBE.due("no drawing", runner.lines(0), 0);
        PROBE.ends("E:" + "0||".repeat(39) + "1", 0, -1);
        PROBE.ends("E:" + "1&&".repeat(39) + "0", 1, 2);
        PROBE.ends("E:" + "0||1&&".repeat(19) + "0", 1, 2);
        PROBE.ends("E:1==" + "-1*".repeat(38) + "1", 0, -1);
        runner = PROBE.ends("E:!" + "M(M(1))+".repeat(14) + "1", 0, -1);
        PROBE.due("calls", runner.calls(0, 0), 28);
    }

    private static void drawings() {
        SpecRunner runner = PROBE.ran("G:a=0E:a" + "+a".repeat(56), 1);
        PROBE.due("values", runner.values(0), 113);
        PROBE.due("the last column", runner.column(0, 112), 112);
        PROBE.due("no further column", runner.column(0, 113), -1);
        PROBE.due("line 1 at its end", runner.drawn(0, 1, 112), '|');
        PROBE.due("line 2 at its end", runner.drawn(0, 2, 112), '0');
        PROBE.due("line 2 before its end", runner.drawn(0, 2, 111), '|');
        runner = PROBE.ran("G:a=9999;a=a*a E:0*(0" + "+a".repeat(48) + ")", 1);
        PROBE.due("values of width 8 and more", runner.values(0), 97);
        PROBE.due("each needs a line of its own, but for the first", runner.lines(0), 2 + 96);
    }

    /** A long feature leaves nothing behind for a short one, and the other way round. */
    private static void reuse() {
        SpecRunner runner = PROBE.ran("E:a;b D:a|b" + ";1|0".repeat(6), 6);
        Probe.type(runner, "W:M(1)T:1*M(_)>>5,6");
        PROBE.due("judge", runner.judge(), 0);
        PROBE.due("run", runner.run(), 0);
        PROBE.due("iterations", runner.iterations(), 1);
        PROBE.due("status of a former iteration", runner.status(1), SpecRunner.BAD);
        PROBE.due("drawing of a former iteration", runner.lines(1), 0);
        Probe.type(runner, "W:a=M(1)T:1*M(_)");
        PROBE.due("judge", runner.judge(), 0);
        PROBE.due("run", runner.run(), 0);
        PROBE.due("no answer of the rule before", runner.variable(0, 0), 0);
        PROBE.due("run again", runner.run(), 0);
        PROBE.due("counts begin anew", runner.calls(0, 0), 1);
    }
}
