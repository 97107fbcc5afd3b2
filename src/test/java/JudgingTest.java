/** Promises 4 (judge) and 5 (place): the verdicts 2 to 5, which is told of several, and what becomes the feature. */
public final class JudgingTest {
    private static final Probe PROBE = new Probe("JudgingTest");

    public static void main(String[] args) {
        usedTooEarly();
        usedInRows();
        dataAssigned();
        tableShapes();
        bounds();
        firstOfSeveral();
        kept();
        PROBE.finish();
    }

    private static void usedTooEarly() {
        PROBE.verdict("E:a", 2, 2);
        PROBE.verdict("E:1;1+M(z)", 2, 8);
        PROBE.verdict("G:a=a E:1", 2, 4);
        PROBE.verdict("G:a=1;a=a+1 E:a", 0, -1);
        PROBE.verdict("G:b=a;a=1 E:1", 2, 4);
        PROBE.verdict("G:a=1 E:a+b", 2, 10);
        PROBE.verdict("W:a=1 T:O(a)==0;a", 0, -1);
        PROBE.verdict("W:1 T:O(a)", 2, 8);
        PROBE.verdict("W:1 T:0*M(_);a", 2, 13);
        PROBE.verdict("E:a W:a=1 T:1", 2, 2);
        PROBE.verdict("W:a=1 T:1 E:a C:a", 0, -1);
        PROBE.verdict("E:1 C:b;b=1", 2, 6);
        PROBE.verdict("E:1 C:b=1;b", 0, -1);
        PROBE.verdict("E:0&&a", 2, 5);
        PROBE.verdict("E:a D:a;1", 0, -1);
        PROBE.verdict("G:b=a E:a;b D:a;1", 0, -1);
        PROBE.verdict("E:a+b D:a;1", 2, 4);
    }

    private static void usedInRows() {
        PROBE.verdict("E:1 D:a|b;1|a", 0, -1);
        PROBE.verdict("E:1 D:a|b|c;1|2|a*b;1|a|b", 0, -1);
        PROBE.verdict("E:1 D:a|b;b|1", 2, 10);
        PROBE.verdict("E:1 D:a|b;1|b", 2, 12);
        PROBE.verdict("E:1 D:a;a", 2, 8);
        PROBE.verdict("G:x=1 E:1 D:a|b;1|x", 2, 18);
        PROBE.verdict("E:1 D:a|b;1|2;1+b|2", 2, 16);
        PROBE.verdict("E:1 D:a|b;1|M(z)", 2, 14);
    }

    private static void dataAssigned() {
        PROBE.verdict("G:a=1 E:1 D:a;1", 3, 2);
        PROBE.verdict("G:b=1;a=1 E:1 D:a;1", 3, 6);
        PROBE.verdict("W:a=1 T:1 D:b|a;1|2", 3, 2);
        PROBE.verdict("E:1 C:a=1 D:a;1", 3, 6);
        PROBE.verdict("E:1 D:a|b|a;1|2|3", 3, 10);
        PROBE.verdict("E:1 D:a|a|a;1|2|3", 3, 8);
        PROBE.verdict("G:a==1 E:1 D:a;1", 0, -1);
        PROBE.verdict("G:e=1 E:1 D:a|b|c|d|e;1|1|1|1|1", 3, 2);
    }

    private static void tableShapes() {
        PROBE.verdict("E:1 D:a|b;1", 4, 10);
        PROBE.verdict("E:1 D:a|b;1|2|3", 4, 10);
        PROBE.verdict("E:1 D:a;1|2", 4, 8);
        PROBE.verdict("E:1 D:a|b;1|2; 1", 4, 15);
        PROBE.verdict("E:1 D:a;1;2;3;4;5;6", 0, -1);
        PROBE.verdict("E:1 D:a;1;2;3;4;5;6;7", 4, 20);
        PROBE.verdict("E:1 D:a;1;2;3;4;5;6;7;8;9", 4, 20);
        PROBE.verdict("E:1 D:a|b|c|d;1|2|3|4", 0, -1);
        PROBE.verdict("E:1 D:a|b|c|d|e;1|2|3|4|5", 4, 14);
        PROBE.verdict("E:1 D:a|b|c|d|e|f;1|2", 4, 14);
    }

    private static void bounds() {
        PROBE.verdict("W:1 T:2-1*M(_)", 5, 6);
        PROBE.verdict("W:1 T:1-1*M(_)", 0, -1);
        PROBE.verdict("W:1 T:2-_*M(_)", 0, -1);
        PROBE.verdict("W:1 T:9999*M(_)", 0, -1);
        PROBE.verdict("W:1 T:1*M(_);3-2*N(1)", 5, 13);
        PROBE.verdict("W:1 T:1-0*M(_);3-2*N(1)", 5, 6);
    }

    private static void firstOfSeveral() {
        PROBE.verdict("E:a;", 1, 4);
        PROBE.verdict("W:1 T:2-1*M(_);a", 5, 6);
        PROBE.verdict("W:1 T:a;2-1*M(_)", 2, 6);
        PROBE.verdict("G:a=b E:1 D:a;1", 3, 2);
        PROBE.verdict("G:c=b;a=1 E:1 D:a;1", 2, 4);
        PROBE.verdict("E:1 D:x;y|1", 2, 8);
        PROBE.verdict("E:1 D:x;1|y", 4, 8);
        PROBE.verdict("E:1 D:x|y;1|y|z", 4, 10);
        PROBE.verdict("E:1 D:a|b|c|d|a;1|1|1|1|1", 3, 14);
        PROBE.verdict("E:1 D:a|b|c|b|e;1|1|1|1|1", 3, 12);
        PROBE.verdict("E:1 D:a;1;2;3;4;5;6;z", 2, 20);
        PROBE.verdict("E:z D:a|a;1", 2, 2);
        PROBE.verdict("E:1 D:a|a;z", 3, 8);
    }

    private static void kept() {
        SpecRunner runner = new SpecRunner();
        Probe.type(runner, "E:0;1");
        PROBE.due("the first judge", runner.judge(), 0);
        PROBE.due("place of a feature", runner.place(), -1);
        Probe.type(runner, "E:a");
        PROBE.due("a judge that finds a fault", runner.judge(), 2);
        PROBE.due("its place", runner.place(), 2);
        PROBE.due("the feature before stays", runner.run(), 1);
        Probe.type(runner, "E:1 D:a;1;2");
        PROBE.due("the feature before stays until a judge", runner.run(), 1);
        PROBE.due("its iterations", runner.iterations(), 1);
        PROBE.due("the second judge", runner.judge(), 0);
        PROBE.due("place of the second feature", runner.place(), -1);
        PROBE.due("the run stays until the next", runner.iterations(), 1);
        PROBE.due("the drawing too", Probe.drawing(runner, 0), "0\n");
        PROBE.due("run of the second feature", runner.run(), 0);
        PROBE.due("its iterations", runner.iterations(), 2);
        Probe.type(runner, "E:1;1;1;");
        PROBE.due("a judge that finds no feature", runner.judge(), 1);
        PROBE.due("run of the second feature again", runner.run(), 0);
        PROBE.due("its iterations", runner.iterations(), 2);
        PROBE.due("judge of the same source again", runner.judge(), 1);
        PROBE.due("its place", runner.place(), 8);
    }
}
