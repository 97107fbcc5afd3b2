import java.util.Random;

/** One object for many features: what it tells of each is what a new object tells. */
public final class ReuseTest {
    private static final Probe PROBE = new Probe("ReuseTest");
    private static final String[] SOURCES = {
        "E:1", "E:0", "E:1;", "E:a", "", "E:((((M(1)))))", "E:1&&", "W:1 T:2-1*M(_)", "G:a=1 E:1 D:a;1", "E:1 D:a;1|2",
        "E:a C:1/(a-2) D:a;0;1;2", "E:a;b D:a|b;1|0;1|0;1|0;1|0;1|0;1|0", "E:0 C:1/0",
        "E:1 D:a|b|c|d;1|2|3|4;2|3|4|5;3|4|5|6", "W:a=0;a=a+1 T:a==1;O(a)==0", "W:a=7;b=a T:O(a+b)", "G:a=3;z=4 E:a==z",
        "W:a=M(1);b=M(1);c=M(2)T:2*M(1)>>5,6;0-_*M(_)>>7;a+b+c==18", "W:a=M(1)T:1*M(_);a", "W:a=N(1)T:0-_*N(!2);a",
        "W:M(1);M(2)T:1*M(_);X C:c=M(3)", "W:1/0 T:X", "W:1 T:X", "W:1/0 T:!X C:c=4%0", "E:1E:1E:1E:1W:1T:1E:1E:1E:1E:0",
        "G:a=8192;a=a*a*32 E:0*a+0*9", "G:a=100;b=10 E:a+b *0-100", "E:!(M(5)+N(1)==0) C:M(1)", "G:a=0E:a" + "+a".repeat(56),
        "E:" + "1;".repeat(58) + "0", "W:1T:" + "0*M(_);".repeat(15) + "1*M(_)", "W:a=M(1)T:1*M(_)>>3" + ",4".repeat(50),
        "E:" + "0||1&&".repeat(19) + "0", "E:1D:a" + ";1".repeat(57), "E:1D:a" + "|a".repeat(56) + ";1"
    };

    public static void main(String[] args) {
        Random random = new Random(3);
        for (int object = 0; object < 40; object++) {
            SpecRunner runner = new SpecRunner();
            String feature = "";
            for (int turn = 0; turn < 60; turn++) {
                String source = SOURCES[random.nextInt(SOURCES.length)];
                Probe.type(runner, source);
                int verdict = runner.judge();
                feature = verdict == 0 ? source : feature;
                compare(runner, source, verdict, feature);
            }
        }
        PROBE.finish();
    }

    private static void compare(SpecRunner runner, String source, int verdict, String feature) {
        SpecRunner fresh = new SpecRunner();
        Probe.type(fresh, feature);
        fresh.judge();
        Probe.type(fresh, source);
        PROBE.due("judge of " + source, verdict, fresh.judge());
        PROBE.due("run of " + feature, runner.run(), fresh.run());
        PROBE.due("what is told of " + feature, Probe.told(runner), Probe.told(fresh));
    }
}
