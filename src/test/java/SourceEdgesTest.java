/** The boundary cases of the source and its tokens: promises 1 to 3, and the first of the 'Terms'. */
public final class SourceEdgesTest {
    private static final Probe PROBE = new Probe("SourceEdgesTest");
    private static final int[] FAR = {Integer.MIN_VALUE, Integer.MIN_VALUE + 1, -256, -8, -1, 0, 9, 10, 64, 256, 257, 264,
        Integer.MAX_VALUE - 119, Integer.MAX_VALUE};

    public static void main(String[] args) {
        newObject();
        lengths();
        howMany();
        whichBytes();
        characters();
        refusalsLeaveAll();
        clearing();
        nothingLeftBehind();
        numbers();
        pairs();
        singleAnd();
        spaces();
        places();
        placesOfSeveral();
        theEnd();
        PROBE.finish();
    }

    /** An object whose source is so long: spaces, behind "E:" if there is room for it. */
    private static SpecRunner ofLength(int length) {
        SpecRunner runner = new SpecRunner();
        Probe.type(runner, length < 2 ? " ".repeat(length) : "E:" + " ".repeat(length - 2));
        return runner;
    }

    /** Such a source lacks an expression at its end, whose place is its length. */
    private static void isOfLength(String what, SpecRunner runner, int length) {
        PROBE.due(what + ", judge", runner.judge(), 1);
        PROBE.due(what + ", length", runner.place(), length);
    }

    private static void newObject() {
        PROBE.sentence("No source, no feature, no iterations.");
        isOfLength("a new object", new SpecRunner(), 0);
        PROBE.due("run of a new object", new SpecRunner().run(), SpecRunner.BAD);
        PROBE.due("iterations of a new object", new SpecRunner().iterations(), 0);
        PROBE.due("status of a new object", new SpecRunner().status(0), SpecRunner.BAD);
    }

    private static void lengths() {
        PROBE.sentence("THE SOURCE is a text of at most 120 characters");
        for (int length = 0; length <= 120; length++) {
            for (int n = 1; n <= 8; n++) {
                SpecRunner runner = ofLength(length);
                String what = n + " behind " + length;
                boolean fits = length + n <= 120;
                PROBE.due("type of " + what, runner.type(Probe.bytes("        "), n), fits);
                isOfLength(what, runner, fits ? length + n : length);
            }
        }
        SpecRunner runner = new SpecRunner();
        for (int i = 0; i < 120; i++) {
            PROBE.due("type of character " + i, runner.type('E', 1), true);
        }
        PROBE.due("type of character 120", runner.type('E', 1), false);
        runner = new SpecRunner();
        for (int i = 0; i < 15; i++) {
            PROBE.due("type of eight, turn " + i, runner.type(Probe.bytes("        "), 8), true);
        }
        PROBE.due("type of eight, turn 15", runner.type(Probe.bytes("        "), 8), false);
    }

    private static void howMany() {
        PROBE.sentence("Adds n characters (1 .. 8) to the source");
        for (int n = 1; n <= 8; n++) {
            SpecRunner runner = ofLength(2);
            PROBE.due("type of " + n, runner.type(Probe.bytes("        "), n), true);
            isOfLength("type of " + n, runner, 2 + n);
        }
        for (int n : FAR) {
            for (int length : new int[] {0, 2, 119, 120}) {
                SpecRunner runner = ofLength(length);
                PROBE.due("type of " + n, runner.type(Probe.bytes("        "), n), false);
                isOfLength("type of " + n, runner, length);
            }
        }
    }

    private static void whichBytes() {
        PROBE.sentence("the lowest n bytes of chars, the highest of these first");
        for (int n = 1; n <= 8; n++) {
            SpecRunner runner = new SpecRunner();
            Probe.type(runner, "E:0*(");
            runner.type(Probe.bytes("5+6-7*8)"), n);
            String typed = "E:0*(" + "5+6-7*8)".substring(8 - n);
            SpecRunner other = new SpecRunner();
            Probe.type(other, typed);
            PROBE.due("judge of the lowest " + n, runner.judge(), other.judge());
            PROBE.due("place of the lowest " + n, runner.place(), other.place());
            long wrongAbove = n == 8 ? 0 : -1L << 8 * n;
            runner = new SpecRunner();
            long chars = wrongAbove | Probe.bytes("E:1<=2;3".substring(0, n));
            PROBE.due("type with wrong bytes above " + n, runner.type(chars, n), true);
        }
        SpecRunner runner = new SpecRunner();
        PROBE.due("type of eight", runner.type(Probe.bytes("E:0*(2+3"), 8), true);
        PROBE.due("type of one", runner.type(0x7fffffffffffff00L | ')', 1), true);
        PROBE.due("judge of both", runner.judge(), 0);
        PROBE.due("run of both", runner.run(), 1);
        PROBE.due("drawing of both", Probe.drawing(runner, 0), "0*(2+3)\n |  |\n 0  5\n");
    }

    private static void characters() {
        PROBE.sentence("small letters, the capitals G W T E C D M N O X, digits, spaces and the signs ( ) + - * / % < >"
            + " = ! & | , ; : _ (no full stop)");
        String taken = "abcdefghijklmnopqrstuvwxyzGWTECDMNOX0123456789 ()+-*/%<>=!&|,;:_";
        for (int c = 0; c < 256; c++) {
            for (int at = 0; at < 8; at++) {
                SpecRunner runner = ofLength(2);
                long chars = Probe.bytes("        ") & ~(255L << 8 * at) | (long) c << 8 * at;
                boolean may = taken.indexOf(c) >= 0;
                PROBE.due("type of character " + c + ", " + at + " from the right", runner.type(chars, 8), may);
                if (!may) {
                    isOfLength("character " + c, runner, 2);
                }
                PROBE.due("type of those behind it", ofLength(2).type(chars, Math.max(1, at)), at > 0 || may);
            }
        }
    }

    private static void refusalsLeaveAll() {
        PROBE.sentence("False, and nothing is added, when n is not so, one of them is none of those, or the source"
            + " would be longer than 120.");
        SpecRunner runner = PROBE.ran("E:a<2 D:a;1;2;3", 2);
        Probe.type(runner, "E:1;z" + " ".repeat(113));
        PROBE.due("judge of 118", runner.judge(), 2);
        String before = Probe.told(runner);
        PROBE.due("three behind 118", runner.type(Probe.bytes("   "), 3), false);
        PROBE.due("none behind 118", runner.type(' ', 0), false);
        PROBE.due("nine behind 118", runner.type(' ', 9), false);
        PROBE.due("a full stop behind 118", runner.type(Probe.bytes(" ."), 2), false);
        PROBE.due("place, run and drawings afterwards", Probe.told(runner), before);
        PROBE.due("the source afterwards", runner.judge(), 2);
        PROBE.due("its place", runner.place(), 4);
        PROBE.due("the feature afterwards", runner.run(), 2);
        PROBE.due("two behind 118", runner.type(Probe.bytes(";;"), 2), true);
        PROBE.due("judge of 120", runner.judge(), 1);
        PROBE.due("place of 120", runner.place(), 119);
    }

    private static void clearing() {
        PROBE.sentence("The source is empty. (The feature stays.)");
        SpecRunner runner = new SpecRunner();
        runner.clear();
        isOfLength("clear of a new object", runner, 0);
        PROBE.due("run without a feature", runner.run(), SpecRunner.BAD);
        runner = ofLength(120);
        PROBE.due("type behind 120", runner.type(' ', 1), false);
        runner.clear();
        isOfLength("clear of 120", runner, 0);
        runner.clear();
        isOfLength("clear of the empty", runner, 0);
        for (int i = 0; i < 15; i++) {
            PROBE.due("type again", runner.type(Probe.bytes("E:1     "), 8), true);
        }
        PROBE.due("type behind 120 again", runner.type(' ', 1), false);
        PROBE.due("judge of 120", runner.judge(), 0);
        runner.clear();
        PROBE.due("the feature stays", runner.run(), 0);
        PROBE.due("its iterations", runner.iterations(), 1);
    }

    /** What a longer source held must not join with the last character of a shorter one that takes its place. */
    private static void nothingLeftBehind() {
        PROBE.sentence("The source is empty. (The feature stays.)");
        String[] sources = {"E:1==1&&1!=1||1<=1&&1>=1;12345", "W:1T:1*M(_)>>1,2;! X D:a||b;1||2", "G:a=1234;a==1 E:a!=!a C:M(1)"};
        for (String source : sources) {
            for (int length = 0; length <= source.length(); length++) {
                SpecRunner runner = new SpecRunner();
                Probe.type(runner, source);
                runner.judge();
                Probe.type(runner, source.substring(0, length));
                SpecRunner fresh = new SpecRunner();
                Probe.type(fresh, source.substring(0, length));
                PROBE.due("judge of " + source.substring(0, length), runner.judge(), fresh.judge());
                PROBE.due("place of " + source.substring(0, length), runner.place(), fresh.place());
            }
        }
        SpecRunner runner = new SpecRunner();
        Probe.type(runner, "E:1==1");
        Probe.type(runner, "E:1=");
        PROBE.due("judge of E:1= behind E:1==1", runner.judge(), 1);
        PROBE.due("place of E:1= behind E:1==1", runner.place(), 3);
        Probe.type(runner, "E:12345");
        Probe.type(runner, "E:1234");
        PROBE.due("judge of E:1234 behind E:12345", runner.judge(), 0);
    }

    private static void numbers() {
        PROBE.sentence("a NUMBER (1 to 4 digits; as many digits as follow one another belong to it, so five are no"
            + " token)");
        for (String number : new String[] {"0", "9", "10", "00", "99", "009", "999", "0000", "0001", "1000", "9999"}) {
            SpecRunner runner = PROBE.ends("G:a=" + number + " E:1", 0, -1);
            PROBE.due("the number " + number, runner.variable(0, 0), Integer.parseInt(number));
        }
        for (int digits = 5; digits <= 118; digits++) {
            PROBE.verdict("E:" + "0".repeat(digits), 1, 2);
        }
        PROBE.verdict("E:99999", 1, 2);
        PROBE.verdict("E:1+00001", 1, 4);
        PROBE.verdict("E:9999 9999", 1, 7);
        PROBE.verdict("E:1;12345;1", 1, 4);
        PROBE.verdict("E:M(12345)", 1, 4);
        PROBE.verdict("W:1 T:9999-9999*M(9999)>>9999,-9999", 0, -1);
        PROBE.verdict("W:1 T:10000*M(1)", 1, 6);
        PROBE.verdict("W:1 T:1-10000*M(1)", 1, 8);
        PROBE.verdict("W:1 T:1*M(10000)", 1, 10);
        PROBE.verdict("W:1 T:1*M(!10000)", 1, 11);
        PROBE.verdict("W:1 T:1*M(1)>>10000", 1, 14);
        PROBE.verdict("W:1 T:1*M(1)>>1,-10000", 1, 17);
        PROBE.verdict("E:1 D:a;9999", 0, -1);
        PROBE.verdict("E:1 D:a;10000", 1, 8);
        PROBE.verdict("12345", 1, 0);
    }

    private static void pairs() {
        PROBE.sentence("the pairs == != <= >= && || >> (taken before single characters)");
        for (String pair : new String[] {"==", "!=", "<=", ">=", "&&", "||"}) {
            PROBE.verdict("E:1" + pair + "1", 0, -1);
            PROBE.verdict("E:1" + pair, 1, 5);
            PROBE.verdict("E:" + pair + "1", 1, 2);
        }
        PROBE.verdict("E:1= =1", 1, 3);
        PROBE.verdict("E:1! =1", 1, 3);
        PROBE.verdict("E:1< =1", 1, 5);
        PROBE.verdict("E:1> =1", 1, 5);
        PROBE.verdict("E:1& &1", 1, 3);
        PROBE.verdict("E:1| |1", 1, 3);
        PROBE.verdict("E:1===1", 1, 5);
        PROBE.verdict("E:1!==1", 1, 5);
        PROBE.verdict("E:1<==1", 1, 5);
        PROBE.verdict("E:1>>=1", 1, 3);
        PROBE.verdict("E:1>>1", 1, 3);
        PROBE.verdict("E:1|||1", 1, 5);
        PROBE.verdict("E:1=!1", 1, 3);
        PROBE.verdict("E:1<!1", 0, -1);
        PROBE.verdict("E:1!=!1", 0, -1);
        PROBE.verdict("G:a=!1 E:a", 0, -1);
        PROBE.verdict("G:a=1;a!=1 E:a", 0, -1);
        PROBE.verdict("G:a==1 E:1", 2, 2);
        PROBE.verdict("W:1 T:1*M(_)> >1", 1, 12);
        PROBE.verdict("W:1 T:1*M(_)>>>1", 1, 14);
        PROBE.verdict("E:1 D:a||b;1||2", 0, -1);
        PROBE.verdict("E:1 D:a| |b;1||2", 1, 9);
        PROBE.verdict("E:1 D:a|b;1|||2", 1, 13);
    }

    private static void singleAnd() {
        PROBE.sentence("(a single & is no token)");
        PROBE.verdict("&", 1, 0);
        PROBE.verdict("E:1&", 1, 3);
        PROBE.verdict("E:1&1", 1, 3);
        PROBE.verdict("E:1&&&&1", 1, 5);
        PROBE.verdict("E:1&&&1", 1, 5);
        PROBE.verdict("E:1 &", 1, 4);
        PROBE.verdict("E:1+&", 1, 4);
        PROBE.verdict("E:1&=1", 1, 3);
        PROBE.verdict("E:1;a &", 1, 6);
    }

    private static void spaces() {
        PROBE.sentence("Spaces may stand between tokens.");
        PROBE.verdict("E:1", 0, -1);
        PROBE.verdict(" E : 1 ", 0, -1);
        PROBE.verdict(" ".repeat(117) + "E:1", 0, -1);
        PROBE.verdict("E:1" + " ".repeat(117), 0, -1);
        PROBE.verdict("E" + " ".repeat(117) + ":1", 0, -1);
        PROBE.verdict("E:1 2", 1, 4);
        PROBE.verdict("W : 1 T : 1 - _ * M ( ! 2 ) >> - 1 , 2 ; ! X ; - M ( 1 ) C : a = 1 D : b || c ; 1 | 2", 0, -1);
    }

    private static void places() {
        PROBE.sentence("The PLACE of a token is that of its first character (from 0)");
        PROBE.verdict("1", 1, 0);
        PROBE.verdict(" 1", 1, 1);
        PROBE.verdict("&&E:1", 1, 0);
        PROBE.verdict("E:1 ==2 <=3", 1, 8);
        PROBE.verdict("E:1  1234", 1, 5);
        PROBE.verdict("E:1" + " ".repeat(116) + "1", 1, 119);
        PROBE.verdict("E:1" + " ".repeat(113) + "1234", 1, 116);
        PROBE.ends("E:1/0", 3, 3);
        PROBE.ends("E:1   %  0", 3, 6);
    }

    private static void placesOfSeveral() {
        PROBE.sentence("the place of what has several tokens is that of its first one, if nothing else is said");
        PROBE.ends("E:1; - ( 0 )", 1, 5);
        PROBE.ends("E:1; ( 0 ) * 1", 1, 5);
        PROBE.ends("E:1; M ( 0 ) + 0", 1, 5);
        PROBE.ends("E:1; 1 + 1 == 3", 1, 5);
        PROBE.ends("W:1T:1; ! X; ! ! 0", 1, 13);
        PROBE.ends("W:1/0T:X; ! X", 1, 10);
        PROBE.ends("W:1T:1; 1 - 2 * M ( _ )", 2, 8);
        PROBE.verdict("W:1T:1; 2 - 1 * M ( _ )", 5, 8);
        PROBE.verdict("E:1D:a; ( 1 ) | 2", 4, 8);
        PROBE.verdict("E:1D:a|b; - 1", 4, 10);
    }

    private static void theEnd() {
        PROBE.sentence("Behind the last token comes the END, whose place is the length of the source.");
        PROBE.verdict("", 1, 0);
        PROBE.verdict(" ", 1, 1);
        PROBE.verdict(" ".repeat(120), 1, 120);
        PROBE.verdict("E", 1, 1);
        PROBE.verdict("E:", 1, 2);
        PROBE.verdict("E:  ", 1, 4);
        PROBE.verdict("E:1;", 1, 4);
        PROBE.verdict("E:1;" + " ".repeat(115), 1, 119);
        PROBE.verdict("E:1;" + " ".repeat(116), 1, 120);
        PROBE.verdict("E:" + "1;".repeat(59), 1, 120);
        PROBE.verdict("E:1==", 1, 5);
    }
}
