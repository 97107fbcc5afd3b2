/** The boundary cases of what a judging finds: promises 4 and 5 (judge and place), the verdicts 0 and 2 to 5. */
public final class JudgingEdgesTest {
    private static final Probe PROBE = new Probe("JudgingEdgesTest");

    public static void main(String[] args) {
        everyLetter();
        usedBeforeAssigned();
        ownStep();
        usedInARow();
        assignedData();
        twiceInTheHeader();
        sumsOfARow();
        seventhRow();
        fifthVariable();
        mostBelowLeast();
        firstByPlace();
        lowestNumber();
        noFeatureComesFirst();
        featureStays();
        toldPlace();
        PROBE.finish();
    }

    private static void fine(String source) {
        PROBE.verdict(source, 0, -1);
    }

    private static void everyLetter() {
        PROBE.sentence("a VARIABLE (a small letter)");
        for (char c = 'a'; c <= 'z'; c++) {
            PROBE.verdict("E:" + c, 2, 2);
            fine("G:" + c + "=1E:" + c);
            fine("E:" + c + "D:" + c + ";1");
            char other = c == 'z' ? 'a' : 'z';
            PROBE.verdict("G:" + other + "=1E:" + c, 2, 7);
            PROBE.verdict("E:" + c + "D:" + other + ";1", 2, 2);
        }
    }

    private static void usedBeforeAssigned() {
        PROBE.sentence("2 a variable is used before (in the source) it was assigned and is no data variable");
        fine("G:a=1;b=a E:b");
        PROBE.verdict("G:b=a;a=1 E:b", 2, 4);
        fine("G:a=1 E:a");
        PROBE.verdict("E:a W:a=1 T:1", 2, 2);
        fine("W:a=1 T:a");
        fine("W:a=1 T:O(a)==0");
        PROBE.verdict("W:1 T:a W:a=1 T:a", 2, 6);
        PROBE.verdict("W:1 T:O(a) W:a=1 T:a", 2, 8);
        PROBE.verdict("W:1 T:1 C:a;a=1", 2, 10);
        fine("W:1 T:1 C:a=1;a");
        PROBE.verdict("E:a C:a=1", 2, 2);
        PROBE.verdict("E:0&&a", 2, 5);
        PROBE.verdict("E:1||M(-a)", 2, 8);
        PROBE.verdict("E:a+b", 2, 2);
        PROBE.verdict("G:a=1 E:a+b", 2, 10);
        fine("G:b=a E:b D:a;1");
        fine("W:b=a T:O(a)==a C:a D:a;1");
        PROBE.verdict("G:" + "1;".repeat(56) + "1E:1+z", 2, 119);
        SpecRunner runner = PROBE.ran("G:a=1 E:a+b D:b;1", 0);
        for (String source : new String[] {"E:a", "E:b", "E:1 D:a;b", "E:1 D:b;a"}) {
            Probe.type(runner, source);
            PROBE.due("judge of " + source + " behind another source", runner.judge(), 2);
        }
    }

    private static void ownStep() {
        PROBE.sentence("in its own step a variable is assigned behind the expression");
        PROBE.verdict("G:a=a E:1", 2, 4);
        PROBE.verdict("G:a=M(1)-a E:1", 2, 9);
        PROBE.verdict("W:a=a T:1", 2, 4);
        PROBE.verdict("E:1 C:a=a", 2, 8);
        fine("G:a=1;a=a E:1");
        fine("G:a=1 W:a=a T:1 C:a=a");
    }

    private static void usedInARow() {
        PROBE.sentence("or it is used in a row and is not a data variable whose column is further left (the place is"
            + " the variable's");
        String header = "E:1D:a|b|c|d;";
        for (int column = 0; column < 4; column++) {
            for (int letter = 0; letter < 5; letter++) {
                StringBuilder row = new StringBuilder();
                int place = -1;
                for (int c = 0; c < 4; c++) {
                    row.append(c == 0 ? "" : "|");
                    place = c == column ? header.length() + row.length() : place;
                    row.append(c == column ? (char) ('a' + letter) : '1');
                }
                boolean left = letter < column;
                PROBE.verdict(header + row, left ? 0 : 2, left ? -1 : place);
                PROBE.verdict(header + "1|2|3|4;" + row, left ? 0 : 2, left ? -1 : place + 8);
            }
        }
        PROBE.verdict("G:x=1 E:x D:a|b;1|x", 2, 18);
        PROBE.verdict("E:1 C:x=1 D:a|b;1|2+M(x)", 2, 22);
        fine("E:1 D:z|a;1|z");
        PROBE.verdict("E:1 D:z|a;a|1", 2, 10);
    }

    private static void assignedData() {
        PROBE.sentence("3 a data variable is assigned, or it stands in the header a second time (its place)");
        PROBE.verdict("G:a=1 E:1 D:a;1", 3, 2);
        PROBE.verdict("G:1;d=1 E:1 D:a|b|c|d;1|2|3|4", 3, 4);
        PROBE.verdict("W:1;a=1 T:1 D:a;1", 3, 4);
        PROBE.verdict("E:1 C:a=1 D:a;1", 3, 6);
        fine("G:e=1 E:1 D:a|b|c|d;1|2|3|4");
        fine("G:a==1 E:1 D:a;1");
        fine("G:a E:1 D:a;1");
    }

    private static void twiceInTheHeader() {
        PROBE.sentence("or it stands in the header a second time (its place)");
        PROBE.verdict("E:1D:a|a;1|1", 3, 7);
        PROBE.verdict("E:1D:a|b|a;1|1|1", 3, 9);
        PROBE.verdict("E:1D:a|b|c|a;1|1|1|1", 3, 11);
        PROBE.verdict("E:1D:a|b|c|c;1|1|1|1", 3, 11);
        PROBE.verdict("E:1D:a|b||b|b;1|1|1|1", 3, 10);
        PROBE.verdict("E:1D:a|a|a;1|1|1", 3, 7);
        fine("E:1D:d|c|b|a;1|1|1|1");
    }

    private static void sumsOfARow() {
        PROBE.sentence("4 a row has not as many sums as the header has variables");
        String letters = "a|b|c|d";
        for (int header = 1; header <= 4; header++) {
            String start = "E:1D:" + letters.substring(0, 2 * header - 1) + ";";
            String good = "1" + "|1".repeat(header - 1);
            for (int sums = 1; sums <= 6; sums++) {
                String row = "1" + "|1".repeat(sums - 1);
                boolean same = sums == header;
                int verdict = same ? 0 : 4;
                PROBE.verdict(start + row, verdict, same ? -1 : start.length());
                PROBE.verdict(start + row + ";" + good, verdict, same ? -1 : start.length());
                PROBE.verdict(start + good + "; " + row, verdict, same ? -1 : start.length() + good.length() + 2);
            }
        }
        PROBE.verdict("E:1D:a;1" + "|1".repeat(56), 4, 7);
    }

    private static void seventhRow() {
        PROBE.sentence("or it is the seventh");
        for (int rows = 1; rows <= 57; rows++) {
            PROBE.verdict("E:1D:a" + ";1".repeat(rows), rows <= 6 ? 0 : 4, rows <= 6 ? -1 : 19);
        }
        PROBE.verdict("E:1D:a" + ";1".repeat(6) + ";  -1", 4, 21);
        fine("E:1D:a|b|c|d" + ";1|2|3|4".repeat(6));
        PROBE.verdict("E:1D:a|b|c|d" + ";1|2|3|4".repeat(7), 4, 61);
    }

    private static void fifthVariable() {
        PROBE.sentence("or the header has a fifth variable (the place is that of the row; of the fifth variable)");
        for (int header = 1; header <= 26; header++) {
            StringBuilder source = new StringBuilder("E:1D:a");
            for (int c = 1; c < header; c++) {
                source.append('|').append((char) ('a' + c));
            }
            source.append(";1").append("|1".repeat(header - 1));
            PROBE.verdict(source.toString(), header <= 4 ? 0 : 4, header <= 4 ? -1 : 13);
        }
        PROBE.verdict("E:1D:a||b||c||d|| e;1|1|1|1|1", 4, 18);
        PROBE.verdict("E:e D:a|b|c|d|e;1|1|1|1|1", 4, 14);
    }

    private static void mostBelowLeast() {
        PROBE.sentence("5 the most of a rule is below the least (the place is the rule's).");
        for (int least = 0; least <= 3; least++) {
            for (int most = 0; most <= 3; most++) {
                boolean below = most < least;
                PROBE.verdict("W:1T:" + least + "-" + most + "*M(_)", below ? 5 : 0, below ? 5 : -1);
            }
            fine("W:1T:" + least + "*M(_)");
            fine("W:1T:" + least + "-_*M(_)");
        }
        PROBE.verdict("W:1T:9999-9998*N(_)", 5, 5);
        fine("W:1T:9999-9999*N(_)");
        fine("W:1T:9998-9999*N(_)");
        fine("W:1T:9999-_*N(_)");
        PROBE.verdict("W:1T:1;  2-1*N(1)>>1;3-1*M(_)", 5, 9);
        fine("W:1T:2-1*3");
    }

    private static void firstByPlace() {
        PROBE.sentence("Otherwise the first of these, by place");
        PROBE.verdict("W:z T:2-1*M(_) D:a|a;1", 2, 2);
        PROBE.verdict("W:1 T:2-1*M(_);z D:a|a;1", 5, 6);
        PROBE.verdict("W:a=z T:2-1*M(_) D:a|a;1", 3, 2);
        PROBE.verdict("W:1 T:1 D:a|a;1", 3, 12);
        PROBE.verdict("W:1 T:1 D:a|b;1;z|z", 4, 14);
        PROBE.verdict("W:1 T:1 D:a|b;z|z;1", 2, 14);
        PROBE.verdict("W:1 T:1 D:a|b|c|d|e|a;z", 4, 18);
        PROBE.verdict("W:1 T:1 D:a|b|a|d|e|f;z", 3, 14);
        PROBE.verdict("W:1 T:1 C:a=z D:a;1", 3, 10);
        PROBE.verdict("W:1 T:1 C:b=z;a=1 D:a;1", 2, 12);
        PROBE.verdict("W:1 T:1 D:a;1;1;1;1;1;1;1;z", 4, 24);
    }

    private static void lowestNumber() {
        PROBE.sentence("(of several at one place the one with the lowest number)");
        PROBE.verdict("E:1D:a|b;z", 2, 9);
        PROBE.verdict("E:1D:a|b;a+1", 2, 9);
        PROBE.verdict("E:1D:a|b;1+a", 4, 9);
        PROBE.verdict("E:1D:a" + ";1".repeat(6) + ";a", 2, 19);
        PROBE.verdict("E:1D:a" + ";1".repeat(6) + ";-a", 4, 19);
        PROBE.verdict("E:1D:a|b|c|d|a;1|1|1|1|1", 3, 13);
        PROBE.verdict("E:1D:a|b|c|d|d;1|1|1|1|1", 3, 13);
        PROBE.verdict("E:1D:a|b|c|d|e;1|1|1|1|1", 4, 13);
    }

    private static void noFeatureComesFirst() {
        PROBE.sentence("1: it is no feature; the place is that of the first token");
        PROBE.verdict("E:z;", 1, 4);
        PROBE.verdict("W:a=z T:2-1*M(_) D:a|a;", 1, 23);
        PROBE.verdict("E:1D:a" + ";1".repeat(7) + ";", 1, 21);
        PROBE.verdict("E:1D:a|b|c|d|e;1|1|1|1|1)", 1, 24);
        PROBE.verdict("E:z;(((((1)))))", 1, 8);
    }

    private static void featureStays() {
        PROBE.sentence("With 0 it is the feature from now on, in place of the one before; otherwise that one stays.");
        String[] sources = {"", "E:1;", "E:z", "G:a=1 E:1 D:a;1", "E:1 D:a;1|1", "W:1 T:2-1*M(_)", "E:1;" + " ".repeat(116)};
        int[] verdicts = {1, 1, 2, 3, 4, 5, 1};
        for (int i = 0; i < sources.length; i++) {
            SpecRunner runner = new SpecRunner();
            Probe.type(runner, sources[i]);
            PROBE.due("judge of " + sources[i], runner.judge(), verdicts[i]);
            PROBE.due("no feature by " + sources[i], runner.run(), SpecRunner.BAD);
            Probe.type(runner, "G:b=2 E:a<b;M(a)==0 C:1/a D:a;1;2;0");
            PROBE.due("judge of a feature", runner.judge(), 0);
            PROBE.due("run of a feature", runner.run(), 2);
            String before = Probe.told(runner);
            Probe.type(runner, sources[i]);
            PROBE.due("judge again of " + sources[i], runner.judge(), verdicts[i]);
            PROBE.due("the feature behind " + sources[i], runner.run(), 2);
            String after = Probe.told(runner);
            PROBE.due("what its run tells", after.substring(after.indexOf(',')), before.substring(before.indexOf(',')));
        }
        SpecRunner runner = PROBE.ran("E:0", 1);
        Probe.type(runner, "E:1");
        PROBE.due("a feature before its judge", runner.run(), 1);
        PROBE.due("its judge", runner.judge(), 0);
        PROBE.due("a feature behind its judge", runner.run(), 0);
    }

    private static void toldPlace() {
        PROBE.sentence("The place that the latest judge() told; -1 when it was 0, or there was none (clear leaves it).");
        SpecRunner runner = new SpecRunner();
        PROBE.due("before any judge", runner.place(), -1);
        runner.clear();
        Probe.type(runner, ";");
        PROBE.due("with a source, before any judge", runner.place(), -1);
        runner.judge();
        PROBE.due("the least place", runner.place(), 0);
        Probe.type(runner, "E:1;" + " ".repeat(116));
        PROBE.due("typing leaves the place", runner.place(), 0);
        runner.judge();
        PROBE.due("the greatest place", runner.place(), 120);
        runner.clear();
        runner.run();
        PROBE.due("clear and a refused run leave the place", runner.place(), 120);
        Probe.type(runner, "E:1");
        runner.judge();
        PROBE.due("behind a judge with 0", runner.place(), -1);
        Probe.type(runner, "E:z");
        runner.run();
        PROBE.due("a run leaves the place", runner.place(), -1);
        runner.judge();
        PROBE.due("behind a judge with 2", runner.place(), 2);
        runner.run();
        PROBE.due("a run leaves the place", runner.place(), 2);
    }
}
