/** Promises 6 to 12: run, iterations, status, failedAt, second, variable and calls. */
public final class RunTest {
    private static final Probe PROBE = new Probe("RunTest");

    public static void main(String[] args) {
        arithmetic();
        expectations();
        shortCuts();
        rows();
        rowsThatThrow();
        throwing();
        failuresEndAPart();
        olds();
        ruleCounts();
        ruleChoice();
        refusedCalls();
        callCounts();
        cleanups();
        outOfRange();
        PROBE.finish();
    }

    private static void holds(String condition) {
        PROBE.ends("E:" + condition, 0, -1);
    }

    private static void assigns(String steps, char letter, int value) {
        SpecRunner runner = PROBE.ends("G:" + steps + " E:1", 0, -1);
        PROBE.due("variable " + letter + " of " + steps, runner.variable(0, letter - 'a'), value);
    }

    private static void arithmetic() {
        assigns("a=1+2*3", 'a', 7);
        assigns("a=(1+2)*3", 'a', 9);
        assigns("a=10-3-2", 'a', 5);
        assigns("a=100/10/5", 'a', 2);
        assigns("a=7/2*2", 'a', 6);
        assigns("a=-7/2", 'a', -3);
        assigns("a=7/-2", 'a', -3);
        assigns("a=-7%3", 'a', -1);
        assigns("a=7%-3", 'a', 1);
        assigns("a=--3", 'a', 3);
        assigns("a=1--3", 'a', 4);
        assigns("a=!0", 'a', 1);
        assigns("a=!7", 'a', 0);
        assigns("a=-!0", 'a', -1);
        assigns("z=5", 'z', 5);
        assigns("a=1;b=a+1;a=b*2", 'a', 4);
        assigns("a=1<2", 'a', 1);
        assigns("a=9999;a=a*a*a", 'a', (int) (9999L * 9999 * 9999));
        assigns("a=8192;a=a*a*32", 'a', Integer.MIN_VALUE);
        assigns("a=8192;a=a*a*32;a=a-1", 'a', Integer.MAX_VALUE);
        assigns("a=8192;a=a*a*32;a=-a", 'a', Integer.MIN_VALUE);
        assigns("a=8192;a=a*a*32;a=a/-1", 'a', Integer.MIN_VALUE);
        assigns("a=8192;a=a*a*32;a=a%-1", 'a', 0);
        assigns("a=8192;a=a*a*32-1;a=a+1", 'a', Integer.MIN_VALUE);
        holds("1==1;1!=2;1<2;1<=1;2>1;2>=2;!(1!=1);!(1<1);!(2<=1);!(1>1);!(1>=2);!(1==2)");
        holds("(3&&4)==1;(0||5)==1;(5||0)==1;(0||0)==0;(4&&0)==0;(0&&4)==0");
        holds("1||0&&0");
        holds("1+1==2&&2*2==4");
        holds("-1");
    }

    private static void expectations() {
        PROBE.ends("E:1", 0, -1);
        PROBE.ends("E:1;2;0;0", 1, 6);
        PROBE.ends("E: 1; (0)", 1, 6);
        PROBE.ends("E:1 E:0 E:1", 1, 6);
        PROBE.ends("E:0;1/0", 1, 2);
        PROBE.ends("E:1;1/0;0", 3, 5);
        PROBE.ends("E:1%0", 3, 3);
        PROBE.ends("E:0==(1+2/(1-1))", 3, 9);
        SpecRunner runner = PROBE.ends("G:a=1;b=2;c=1/0;d=4 W:a=9 T:1", 3, 13);
        PROBE.due("a before the throw", runner.variable(0, 0), 1);
        PROBE.due("c that threw", runner.variable(0, 2), 0);
        PROBE.due("d behind the throw", runner.variable(0, 3), 0);
        PROBE.due("second without a cleanup", runner.second(0), false);
        runner = PROBE.ends("E:0 W:a=1 T:1", 1, 2);
        PROBE.due("a part behind the failed one", runner.variable(0, 0), 0);
    }

    private static void shortCuts() {
        PROBE.ends("E:1||1/0", 0, -1);
        PROBE.ends("E:0&&1/0", 1, 2);
        PROBE.ends("E:0||1/0", 3, 6);
        PROBE.ends("E:1&&1/0", 3, 6);
        PROBE.ends("E:1||1/0||1/0", 0, -1);
        PROBE.ends("E:0&&1/0&&1/0", 1, 2);
        PROBE.ends("E:0&&1/0||1", 0, -1);
        PROBE.ends("E:1||1/0&&1/0", 0, -1);
        PROBE.ends("E:1&&0||1/0", 3, 9);
        SpecRunner runner = PROBE.ends("E:M(1)||N(1)||1||M(2)", 0, -1);
        PROBE.due("calls of M", runner.calls(0, 0), 1);
        PROBE.due("calls of N", runner.calls(0, 1), 1);
    }

    private static void rows() {
        SpecRunner runner = PROBE.ran("G:d=a+b E:c==d D:a|b||c;1|2||3;2|a*2||7;-1|-a||b-1", 1);
        PROBE.due("iterations", runner.iterations(), 3);
        PROBE.due("status 0", runner.status(0), 0);
        PROBE.due("status 1", runner.status(1), 1);
        PROBE.due("status 2", runner.status(2), 0);
        PROBE.due("failedAt 0", runner.failedAt(0), -1);
        PROBE.due("failedAt 1", runner.failedAt(1), 10);
        PROBE.due("b of row 1", runner.variable(1, 1), 4);
        PROBE.due("c of row 1", runner.variable(1, 2), 7);
        PROBE.due("d of row 1", runner.variable(1, 3), 6);
        PROBE.due("a of row 2", runner.variable(2, 0), -1);
        PROBE.due("no row 3", runner.status(3), SpecRunner.BAD);
        runner = PROBE.ran("G:b=1 E:a D:a;0;1;0;1;0;0", 4);
        PROBE.due("iterations of six rows", runner.iterations(), 6);
        PROBE.due("status of the sixth", runner.status(5), 1);
        PROBE.due("variable of the sixth", runner.variable(5, 1), 1);
        runner = PROBE.ran("W:c=0;c=c+1;d=a T:c==1;O(c+d)==0 D:a;1;2", 0);
        PROBE.due("iterations begin anew", runner.variable(1, 2), 1);
    }

    private static void rowsThatThrow() {
        SpecRunner runner = PROBE.ran("W:d=5 T:1 C:e=1/0 D:a|b|c;1|M(2)/0|3;4|M(5)|M(6)", 2);
        PROBE.due("status of a row that throws", runner.status(0), 3);
        PROBE.due("place of a row that throws", runner.failedAt(0), 32);
        PROBE.due("no cleanup behind a row that throws", runner.second(0), false);
        PROBE.due("the value before", runner.variable(0, 0), 1);
        PROBE.due("the value that threw", runner.variable(0, 1), 0);
        PROBE.due("the value behind", runner.variable(0, 2), 0);
        PROBE.due("nothing else is done", runner.variable(0, 3), 0);
        PROBE.due("calls in a row", runner.calls(0, 0), 1);
        PROBE.due("the next row is done", runner.variable(1, 3), 5);
        PROBE.due("its failure", runner.failedAt(1), 15);
        PROBE.due("its calls", runner.calls(1, 0), 2);
    }

    private static void throwing() {
        PROBE.ends("W:1 T:X", 1, 6);
        PROBE.ends("W:1/0 T:X", 0, -1);
        PROBE.ends("W:1 T:!X", 0, -1);
        PROBE.ends("W:1/0 T:!X", 3, 3);
        PROBE.ends("W:1/0 T:0", 3, 3);
        PROBE.ends("W:1/0 T:1;! X;X", 1, 10);
        PROBE.ends("W:1 T:1;1;X;0", 1, 10);
        PROBE.ends("W:1/0 T:0;X", 1, 8);
        SpecRunner runner = PROBE.ends("W:a=1;a=2%0;a=3 T:X;a==1", 0, -1);
        PROBE.due("steps behind a throw are left out", runner.variable(0, 0), 1);
        PROBE.ends("W:1/0 T:X;1%0", 3, 11);
        PROBE.ends("W:1/0 T:X E:1/0", 3, 13);
        PROBE.ends("W:1/0 T:X W:1 T:!X", 0, -1);
        PROBE.ends("W:1/0 T:X W:1 T:X", 1, 16);
        PROBE.ends("W:1/0 T:1*M(_);X", 2, 8);
    }

    private static void failuresEndAPart() {
        for (String claims : new String[] {"0;0", "X;0", "X;1/0", "0;1*M(_)", "X;1*M(_)", "1/0;0", "1*M(_);1*N(_)"}) {
            SpecRunner runner = PROBE.ran("W:1 T:" + claims + " W:a=1 T:0 E:0 C:b=1", 1);
            PROBE.due("no second failure of " + claims, runner.second(0), false);
            PROBE.due("no part behind " + claims, runner.variable(0, 0), 0);
            PROBE.due("the cleanup behind " + claims, runner.variable(0, 1), 1);
        }
    }

    private static void olds() {
        PROBE.ends("G:a=1 W:a=5 T:O(a)==1;a-O(a)==4", 0, -1);
        PROBE.ends("W:a=5 T:O(a)==0", 0, -1);
        PROBE.ends("G:a=1 W:a=2 T:a==2 W:a=3 T:O(a)==2;O(a+1)*O(a)==6", 0, -1);
        SpecRunner runner = PROBE.ends("W:a=1 T:0&&O(1/0);X", 3, 14);
        PROBE.due("WHEN behind an O that throws", runner.variable(0, 0), 0);
        runner = PROBE.ends("W:a=M(1) T:1*M(_)>>7;O(M(1))==0;1||O(M(1));a==7", 0, -1);
        PROBE.due("calls in O's, once each", runner.calls(0, 0), 3);
        PROBE.ends("W:a=1/0 T:X;O(1%0)", 3, 15);
        PROBE.ends("W:1 T:O(M(1)+1)+O(2)==3;O(4)==4", 0, -1);
    }

    private static void ruleCounts() {
        PROBE.ends("W:1 T:1*M(_)", 2, 6);
        PROBE.ends("W:1 T:0*M(_)", 0, -1);
        PROBE.ends("W:M(1) T:1*M(_)", 0, -1);
        PROBE.ends("W:M(1) T:2*M(_)", 2, 9);
        PROBE.ends("W:M(1) T:0-_*M(_);1*N(_);0", 1, 25);
        PROBE.ends("W:M(1) T:0-_*M(_);1*N(_);1", 2, 18);
        PROBE.ends("W:N(1) T:1*N(_);1*M(_)", 2, 16);
        PROBE.ends("W:M(1);M(1);M(1) T:2-4*M(_)", 0, -1);
        PROBE.ends("W:M(1);M(1);M(1) T:2-_*M(_)", 0, -1);
        PROBE.ends("W:M(1) T:1*M(2)", 2, 9);
        PROBE.ends("W:M(2) T:1*M(!2)", 2, 9);
        PROBE.ends("W:M(3) T:1*M(!2)", 0, -1);
        PROBE.ends("W:M(-2) T:1*M(!2)", 0, -1);
        PROBE.ends("W:1 T:0*M(_);M(1)+M(1)==0", 0, -1);
        PROBE.ends("W:M(1) T:1*M(_) W:M(1) T:1*M(_)", 0, -1);
        PROBE.ends("W:M(1) T:1*M(_) W:1 T:1*M(_)", 2, 22);
    }

    private static void ruleChoice() {
        PROBE.ends("W:a=M(1);b=M(1);c=M(1);d=M(1)T:4*M(1)>>5,-7;a==5;b==-7;c==-7;d==-7", 0, -1);
        PROBE.ends("W:a=M(1)T:1*M(1);a==0", 0, -1);
        PROBE.ends("W:a=N(1);b=M(1)T:0-_*M(_)>>3;0-_*N(_)>>4;a==4;b==3", 0, -1);
        PROBE.ends("W:a=N(1)T:0-_*M(_)>>3;a==0", 0, -1);
        PROBE.ends("W:a=M(1);b=M(1);c=M(1)T:1*M(_)>>2;1*M(1)>>3;0-1*M(!0)>>4;a==2;b==3;c==4", 0, -1);
        PROBE.ends("W:a=M(1);b=M(2)T:1*M(2)>>2;1*M(1)>>1;a==1;b==2", 0, -1);
        PROBE.ends("W:a=M(M(1))T:1*M(1)>>8;1*M(8)>>9;a==9", 0, -1);
        PROBE.ends("W:a=M(1)T:0*M(_)>>8;0-_*M(1)>>9;a==9", 0, -1);
        PROBE.ends("W:a=M(1)-M(1)*M(1)T:3*M(1)>>1,2,3;a==-5", 0, -1);
        PROBE.ends("W:a=M(1)T:1*M(_)>>1,2;a W:a=M(1)T:1*M(_)>>3;a==3", 0, -1);
        SpecRunner runner = PROBE.ran("W:b=M(a)T:1*M(!2)>>3,4;b==3*(a==1) D:a;1;1;2", 1);
        PROBE.due("each iteration counts anew", runner.status(1), 0);
        PROBE.due("the rule of the third is not met", runner.failedAt(2), 10);
    }

    private static void refusedCalls() {
        SpecRunner runner = PROBE.ends("W:a=1;a=2+M(1);a=3 T:0*M(_);X C:b=M(1)", 2, 10);
        PROBE.due("the step that failed", runner.variable(0, 0), 1);
        PROBE.due("a call that failed counts, and one of the cleanup", runner.calls(0, 0), 2);
        PROBE.due("rules are not in force in the cleanup", runner.second(0), false);
        PROBE.ends("W:M(1);M(1);M(1)T:2*M(_)", 2, 12);
        PROBE.ends("W:M(1);M(1);M(2)T:1*M(1);1*M(_)", 2, 12);
        PROBE.ends("W:M(3);M(1);M(2)T:1*M(!1);1-2*M(_)", 0, -1);
        PROBE.ends("W:M(1+M(2))T:0-1*M(_);X", 2, 2);
        PROBE.ends("W:N(1);M(2)T:0*M(2);X", 2, 7);
        PROBE.ends("W:M(1)/0 T:0*M(_);X", 2, 2);
        PROBE.ends("W:M(1/0)T:0*M(_);X", 0, -1);
    }

    private static void callCounts() {
        SpecRunner runner = PROBE.ends("G:M(1);N(1) W:M(1) T:M(2)==O(M(3)) E:M(N(4))==0 C:M(5);N(6)", 0, -1);
        PROBE.due("all calls of M", runner.calls(0, 0), 6);
        PROBE.due("all calls of N", runner.calls(0, 1), 3);
        runner = PROBE.ends("E:M(1/0)", 3, 5);
        PROBE.due("a call whose argument throws", runner.calls(0, 0), 0);
        runner = PROBE.ran("E:!M(a) D:a;M(1)+M(1);1", 0);
        PROBE.due("calls of the first row", runner.calls(0, 0), 3);
        PROBE.due("calls of the second row", runner.calls(1, 0), 1);
    }

    private static void cleanups() {
        SpecRunner runner = PROBE.ends("E:1 C:a=1;b=2", 0, -1);
        PROBE.due("the cleanup is done", runner.variable(0, 1), 2);
        runner = PROBE.ends("E:0 C:a=1;b=2", 1, 2);
        PROBE.due("the cleanup is done behind a failure", runner.variable(0, 1), 2);
        PROBE.due("no second failure", runner.second(0), false);
        runner = PROBE.ends("E:1 C:a=1;1/0;a=2", 3, 11);
        PROBE.due("a cleanup that fails first is no second", runner.second(0), false);
        PROBE.due("what stands behind in the cleanup", runner.variable(0, 0), 1);
        runner = PROBE.ends("E:0 C:a=1;1/0;a=2", 1, 2);
        PROBE.due("a second failure", runner.second(0), true);
        runner = PROBE.ends("G:1/0 W:a=1 T:1 C:a=a+7", 3, 3);
        PROBE.due("the cleanup behind a GIVEN that throws", runner.variable(0, 0), 7);
        runner = PROBE.ends("W:M(1) T:0*M(_) C:1%0", 2, 2);
        PROBE.due("a second failure behind a refused call", runner.second(0), true);
        runner = PROBE.ran("E:a C:1/(a-2) D:a;0;1;2", 2);
        PROBE.due("second of 0", runner.second(0), false);
        PROBE.due("second of 2", runner.second(2), false);
        PROBE.due("status of 2", runner.status(2), 3);
    }

    private static void outOfRange() {
        SpecRunner runner = PROBE.ran("G:z=9;b=3 W:M(1)+N(1) T:0 C:1/0", 1);
        PROBE.due("second", runner.second(0), true);
        for (int k : new int[] {Integer.MIN_VALUE, -1, 1, 2, 5, 6, 7, Integer.MAX_VALUE}) {
            PROBE.due("status " + k, runner.status(k), SpecRunner.BAD);
            PROBE.due("failedAt " + k, runner.failedAt(k), -1);
            PROBE.due("second " + k, runner.second(k), false);
            PROBE.due("variable of " + k, runner.variable(k, 1), 0);
            PROBE.due("calls of " + k, runner.calls(k, 0), 0);
        }
        PROBE.due("variable z", runner.variable(0, 25), 9);
        for (int v : new int[] {Integer.MIN_VALUE, -1, 26, 'z', Integer.MAX_VALUE}) {
            PROBE.due("variable " + v, runner.variable(0, v), 0);
        }
        PROBE.due("calls of M", runner.calls(0, 0), 1);
        PROBE.due("calls of N", runner.calls(0, 1), 1);
        for (int m : new int[] {Integer.MIN_VALUE, -1, 2, 'M', Integer.MAX_VALUE}) {
            PROBE.due("calls of " + m, runner.calls(0, m), 0);
        }
    }
}
