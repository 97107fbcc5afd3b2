/** The boundary cases of rules and calls: which rule a call goes to, what it answers, and which call is refused. */
public final class RuleEdgesTest {
    private static final Probe PROBE = new Probe("RuleEdgesTest");

    public static void main(String[] args) {
        inForce();
        noMoreInForce();
        fits();
        calledWith();
        fewerThanItsMost();
        inOrder();
        answers();
        noAnswers();
        refused();
        refusedIsNotThrown();
        otherCalls();
        leastOfEach();
        leastInOrder();
        countedCalls();
        PROBE.finish();
    }

    /** So many calls of M, with 1. */
    private static String calls(int n) {
        return n == 0 ? "1" : "M(1)" + ";M(1)".repeat(n - 1);
    }

    private static void inForce() {
        PROBE.sentence("Then the rules of THEN are IN FORCE, with 0 calls each, and WHEN's steps are done");
        PROBE.ends("W:M(1)T:1*M(_)W:M(1)T:1*M(_)W:M(1)T:1*M(_)", 0, -1);
        PROBE.ends("W:M(1)T:1*M(_)W:1T:1*M(_)", 2, 19);
        PROBE.ends("W:M(1)T:1*M(_)W:a=M(1)T:1*M(_)>>4,5;a==4", 0, -1);
        PROBE.ends("W:M(1)T:1*M(_)W:a=M(1)T:0-_*N(_);a==0", 0, -1);
        PROBE.ran("W:b=M(1)T:1*M(_)>>4,5;b==4D:a;1;2;3;4;5;6", 0);
        SpecRunner runner = PROBE.ends("W:a=M(1)T:1*M(_)>>4,5;a==4", 0, -1);
        PROBE.due("run again", runner.run(), 0);
        PROBE.due("the answer of the first call again", runner.variable(0, 0), 4);
        PROBE.ends("G:a=M(1)W:b=M(1)T:1*M(_)>>4,5;b==4;a==0", 0, -1);
        PROBE.ends("G:M(1)W:1T:0*M(_)", 0, -1);
        PROBE.ends("W:1T:0*M(_);O(M(1))==0", 0, -1);
        PROBE.ends("W:M(1)T:O(M(1))==0;1*M(_)>>7", 0, -1);
        PROBE.ends("E:M(1)==0W:1T:0*M(_)E:M(1)==0", 0, -1);
        SpecRunner row = PROBE.ran("W:1T:0*M(_)D:a;M(1)", 0);
        PROBE.due("a call in a row before rules are in force", row.variable(0, 0), 0);
    }

    private static void noMoreInForce() {
        PROBE.sentence("Then no rule is in force any more.");
        PROBE.ends("W:M(1)T:1*M(_)>>7;M(1)==0;M(1)==0", 0, -1);
        PROBE.ends("W:1T:0*M(_);M(1)==0", 0, -1);
        PROBE.ends("W:1T:1*M(_);M(1)==0", 2, 5);
        PROBE.ends("W:1T:0*M(_)E:M(1)==0", 0, -1);
        PROBE.ends("W:1/0T:0*M(_);X;M(1)==0", 0, -1);
        SpecRunner runner = PROBE.ends("W:M(1)T:1*M(_)>>7C:a=M(1)+1", 0, -1);
        PROBE.due("a call in the cleanup", runner.variable(0, 0), 1);
        PROBE.due("both calls", runner.calls(0, 0), 2);
        runner = PROBE.ends("W:1/0T:0*M(_)C:a=M(1)+1", 3, 3);
        PROBE.due("a call in the cleanup behind a throw", runner.variable(0, 0), 1);
        runner = PROBE.ran("W:M(a)T:0*M(1)C:b=M(1)+1D:a;2;1;2", 1);
        PROBE.due("a call in the cleanup behind a refused call", runner.variable(1, 1), 1);
        PROBE.due("which is no second failure", runner.second(1), false);
    }

    private static void fits() {
        PROBE.sentence("the rules for its M or N whose argument FITS (_ any; a number the same value; ! a number"
            + " another value)");
        String[] values = {"0", "-0", "1", "-1", "9998", "9999", "-9999", "9999+1", "8192*8192*32", "8192*8192*32-1"};
        int[] are = {0, 0, 1, -1, 9998, 9999, -9999, 10000, Integer.MIN_VALUE, Integer.MAX_VALUE};
        int[] numbers = {0, 1, 9998, 9999};
        for (int i = 0; i < values.length; i++) {
            for (String callee : new String[] {"M", "N"}) {
                String step = "W:a=" + callee + "(" + values[i] + ")T:";
                PROBE.ends(step + "1*" + callee + "(_)>>7;a==7", 0, -1);
                for (int number : numbers) {
                    boolean same = are[i] == number;
                    PROBE.ends(step + "0-1*" + callee + "(" + number + ")>>7;a==" + (same ? 7 : 0), 0, -1);
                    PROBE.ends(step + "0-1*" + callee + "(!" + number + ")>>7;a==" + (same ? 0 : 7), 0, -1);
                }
            }
        }
        PROBE.ends("W:a=M(1)T:0-_*N(_)>>7;a==0", 0, -1);
        PROBE.ends("W:a=N(1)T:0-_*M(_)>>7;a==0", 0, -1);
    }

    private static void calledWith() {
        PROBE.sentence("M and N are CALLED with the value of their expression.");
        PROBE.ends("W:M(2+3*4)T:1*M(14)", 0, -1);
        PROBE.ends("W:M(2||3)T:1*M(1)", 0, -1);
        PROBE.ends("W:M(1==2)T:1*M(0)", 0, -1);
        PROBE.ends("W:M(9999*9999*9999)T:1*M(!0)", 0, -1);
        PROBE.ends("W:M(256*256*256*256)T:1*M(0)", 0, -1);
        PROBE.ends("W:a=5;M(a)T:1*M(5)", 0, -1);
        PROBE.ends("W:M(N(1))T:1*N(1)>>-3;1*M(!3)", 0, -1);
    }

    private static void fewerThanItsMost() {
        PROBE.sentence("are gone through in order; the first one with fewer calls than its most has a call more");
        for (int most = 0; most <= 4; most++) {
            StringBuilder source = new StringBuilder("W:");
            for (int call = 0; call < 5; call++) {
                source.append(call == 0 ? "" : ";").append((char) ('a' + call)).append("=M(1)");
            }
            source.append("T:0-").append(most).append("*M(1)>>7;0-_*M(_)>>8");
            SpecRunner runner = PROBE.ends(source.toString(), 0, -1);
            for (int call = 0; call < 5; call++) {
                PROBE.due("call " + call + " with a most of " + most, runner.variable(0, call), call < most ? 7 : 8);
            }
        }
        for (int calls = 0; calls <= 6; calls++) {
            boolean few = calls <= 3;
            PROBE.ends("W:" + calls(calls) + "T:0-3*M(_)", few ? 0 : 2, few ? -1 : 2 + 5 * 3);
            PROBE.ends("W:" + calls(calls) + "T:0-1*M(_);0*M(1);0-2*M(!0)", few ? 0 : 2, few ? -1 : 2 + 5 * 3);
            PROBE.ends("W:" + calls(calls) + "T:0-_*M(_)", 0, -1);
        }
        PROBE.ends("W:" + calls(21) + "T:0-21*M(_)", 0, -1);
        PROBE.ends("W:" + calls(21) + "T:0-20*M(_)", 2, 102);
    }

    private static void inOrder() {
        PROBE.sentence("are gone through in order");
        PROBE.ends("W:a=M(1);b=M(1)T:1*M(_)>>7;1*M(1)>>8;a==7;b==8", 0, -1);
        PROBE.ends("W:a=M(1);b=M(1)T:1*M(1)>>8;1*M(_)>>7;a==8;b==7", 0, -1);
        PROBE.ends("W:a=M(1);b=M(2)T:1*M(_)>>7;1*M(1)>>8;a==7;b==0", 2, 11);
        PROBE.ends("W:a=M(2);b=M(1)T:1*M(1)>>8;1*M(_)>>7;a==7;b==8", 0, -1);
        PROBE.ends("W:a=M(1)T:0*M(_);0*M(1);0-_*M(!2)>>9;a==9", 0, -1);
        PROBE.ends("W:a=M(1)T:" + "0*M(_);".repeat(14) + "1*M(1)>>12", 0, -1);
        PROBE.ends("W:a=M(1)T:" + "0*M(_);".repeat(14) + "0*M(1)", 2, 4);
    }

    private static void answers() {
        PROBE.sentence("the first answer for the first call, and so on, the last one for all further ones");
        int[] due = {9999, -9999, 0, 5};
        String[] written = {"9999", "-9999", "-0", "5"};
        for (int answers = 1; answers <= 4; answers++) {
            StringBuilder rule = new StringBuilder("5*M(_)>>");
            for (int i = 0; i < answers; i++) {
                rule.append(i == 0 ? "" : ",").append(written[i]);
            }
            SpecRunner runner = PROBE.ends("W:a=M(1);b=M(1);c=M(1);d=M(1);e=M(1)T:" + rule, 0, -1);
            for (int call = 0; call < 5; call++) {
                int answer = due[Math.min(call, answers - 1)];
                PROBE.due("answer " + call + " of " + rule, runner.variable(0, call), answer);
            }
        }
        PROBE.ends("W:a=M(1);M(2);b=M(1)T:2*M(1)>>4,5,6;1*M(2)>>7;a==4;b==5", 0, -1);
        PROBE.ends("W:a=M(1);b=N(1);c=M(1)T:2*M(_)>>4,5;1*N(_)>>6,7;a==4;b==6;c==5", 0, -1);
        SpecRunner runner = PROBE.ends("W:a=M(1)T:1*M(_)>>3" + ",4".repeat(50), 0, -1);
        PROBE.due("the first of 51 answers", runner.variable(0, 0), 3);
        runner = PROBE.ends("W:a=M(M(M(M(1))))T:0-_*M(_)>>1,2,3,4,5", 0, -1);
        PROBE.due("the fourth of five answers", runner.variable(0, 0), 4);
    }

    private static void noAnswers() {
        PROBE.sentence("0 when there are none");
        PROBE.ends("W:a=M(1)+1T:1*M(_);a==1", 0, -1);
        PROBE.ends("W:a=M(1)+1T:1*M(_);0-1*M(_)>>7;a==1", 0, -1);
        PROBE.ends("W:M(1);a=M(1)+1T:1*M(_)>>7;1*M(_);a==1", 0, -1);
        PROBE.ends("W:a=M(1)T:1*M(_)>>7;a W:a=M(1)T:1*M(_);a==0", 0, -1);
    }

    private static void refused() {
        PROBE.sentence("When there are such rules but all have had their most, the iteration fails at once (2, at the"
            + " place of the M or N).");
        SpecRunner runner = PROBE.ends("W:a=1;a=2+N(M(5)+3);b=2T:0-_*M(_)>>4;0*N(7);X;0 W:c=1T:1 E:0 C:d=1", 2, 10);
        PROBE.due("the step before", runner.variable(0, 0), 1);
        PROBE.due("the step behind", runner.variable(0, 1), 0);
        PROBE.due("the part behind", runner.variable(0, 2), 0);
        PROBE.due("the cleanup", runner.variable(0, 3), 1);
        PROBE.due("the call before", runner.calls(0, 0), 1);
        PROBE.due("the refused call", runner.calls(0, 1), 1);
        PROBE.due("no drawing", runner.lines(0), 0);
        PROBE.due("no second failure", runner.second(0), false);
        PROBE.ends("W:M(1)T:0*M(1)", 2, 2);
        PROBE.ends("W:M(1)T:0*M(!2)", 2, 2);
        PROBE.ends("W:M(2)T:0*M(1);0*M(!2)", 0, -1);
        PROBE.ends("W:M(1)T:0*M(1);0*M(_);0-1*M(2)", 2, 2);
    }

    private static void refusedIsNotThrown() {
        PROBE.sentence("the iteration fails at once (2, at the place of the M or N)");
        PROBE.ends("W:M(1)T:0*M(_);X", 2, 2);
        PROBE.ends("W:M(1)/0T:0*M(_);X", 2, 2);
        PROBE.ends("W:1/0+M(1)T:0*M(_);X", 0, -1);
        PROBE.ends("W:M(1/0)T:0*M(_);X", 0, -1);
        PROBE.ends("W:0&&M(1)T:0*M(_)", 0, -1);
        PROBE.ends("W:1||M(1)T:0*M(_)", 0, -1);
        PROBE.ends("W:1&&M(1)T:0*M(_)", 2, 5);
        PROBE.due("a second failure", PROBE.ends("W:M(1)T:0*M(_)C:1/0", 2, 2).second(0), true);
    }

    private static void otherCalls() {
        PROBE.sentence("Other calls give 0.");
        PROBE.ends("E:M(1)==0;N(1)==0;M(N(5))==0", 0, -1);
        PROBE.ends("W:a=M(1)T:a==0;!X", 0, -1);
        PROBE.ends("W:a=M(2)T:0*M(1);a==0", 0, -1);
        PROBE.ends("W:a=M(1)T:0*M(!1);a==0", 0, -1);
        PROBE.ends("W:a=M(1)T:0*N(_);a==0", 0, -1);
        PROBE.ends("W:a=M(2)T:0-_*M(1)>>7;a==0", 0, -1);
    }

    private static void leastOfEach() {
        PROBE.sentence("each rule, in order, has to have had its least, or the iteration fails (2, at its place)");
        for (int least = 0; least <= 4; least++) {
            for (int calls = 0; calls <= 4; calls++) {
                String when = "W:" + calls(calls) + "T:1;";
                boolean enough = calls >= least;
                PROBE.ends(when + least + "-_*M(_)", enough ? 0 : 2, enough ? -1 : when.length());
                PROBE.ends(when + least + "-4*M(1)", enough ? 0 : 2, enough ? -1 : when.length());
            }
        }
        PROBE.ends("W:1T:0*M(_)", 0, -1);
        PROBE.ends("W:1T:9999-_*M(_)", 2, 5);
        PROBE.ends("W:" + calls(21) + "T:21*M(_)", 0, -1);
        PROBE.ends("W:" + calls(20) + "T:21*M(_)", 2, 103);
        PROBE.ends("W:1/0T:1*M(_);X", 2, 7);
        PROBE.ends("W:M(1);1/0T:1*M(_);X", 0, -1);
    }

    private static void leastInOrder() {
        PROBE.sentence("Then each rule, in order, has to have had its least");
        PROBE.ends("W:1T:1*M(_);1*N(_)", 2, 5);
        PROBE.ends("W:M(1)T:1*M(_);1*N(_)", 2, 15);
        PROBE.ends("W:N(1)T:1*M(_);1*N(_)", 2, 8);
        PROBE.ends("W:1T:1*M(_);0", 1, 12);
        PROBE.ends("W:1T:1*M(_);X", 1, 12);
        PROBE.ends("W:1T:1*M(_);1/0", 3, 13);
        PROBE.ends("W:1T:" + "0*M(_);".repeat(15) + "1*M(_)", 2, 110);
    }

    private static void countedCalls() {
        PROBE.sentence("(Calls in O's, claims and cleanups count, too, and one that failed.)");
        PROBE.due("no calls", PROBE.ends("E:1", 0, -1).calls(0, 0), 0);
        PROBE.due("a call in an O", PROBE.ends("W:1T:O(M(1))==0", 0, -1).calls(0, 0), 1);
        PROBE.due("a call in a claim", PROBE.ends("W:1T:M(1)==0", 0, -1).calls(0, 0), 1);
        PROBE.due("a call in a cleanup", PROBE.ends("E:1C:M(1)", 0, -1).calls(0, 0), 1);
        PROBE.due("a call that failed", PROBE.ends("W:M(1)T:0*M(_)", 2, 2).calls(0, 0), 1);
        PROBE.due("a call in a GIVEN", PROBE.ends("G:M(1)E:1", 0, -1).calls(0, 0), 1);
        PROBE.due("a call in an EXPECT", PROBE.ends("E:!M(1)", 0, -1).calls(0, 0), 1);
        PROBE.due("a call in a row", PROBE.ran("E:1D:a;M(1)", 0).calls(0, 0), 1);
        PROBE.due("a call whose argument throws", PROBE.ends("E:M(1/0)", 3, 5).calls(0, 0), 0);
        PROBE.due("a claim that is a rule", PROBE.ends("W:1T:0*M(1)", 0, -1).calls(0, 0), 0);
        SpecRunner runner = PROBE.ends("E:M(M(M(M(1))))" + "+N(1)".repeat(21), 1, 2);
        PROBE.due("calls in one another", runner.calls(0, 0), 4);
        PROBE.due("calls one behind the other", runner.calls(0, 1), 21);
    }
}
