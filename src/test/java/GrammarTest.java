/** Promises 4 (judge) and 5 (place): what is no feature, and from which token on. */
public final class GrammarTest {
    private static final Probe PROBE = new Probe("GrammarTest");

    public static void main(String[] args) {
        tokens();
        blocks();
        steps();
        claims();
        rules();
        tables();
        expressions();
        depth();
        olds();
        PROBE.finish();
    }

    private static void fine(String source) {
        PROBE.verdict(source, 0, -1);
    }

    private static void wrong(String source, int place) {
        PROBE.verdict(source, 1, place);
    }

    private static void tokens() {
        fine("E:1234");
        fine("E:0");
        fine("E:0000");
        wrong("E:12345", 2);
        wrong("E:1+123456", 4);
        wrong("E:12 34", 5);
        fine("  E  :  12  ");
        wrong("    ", 4);
        wrong("", 0);
        wrong("E:1&1", 3);
        wrong("E:1&&&1", 5);
        wrong("E:1& &1", 3);
        wrong("E:1= =1", 3);
        wrong("E:1< =1", 5);
        wrong("E:1===1", 5);
        wrong("E:1>>1", 3);
        wrong("E:1|1", 3);
        wrong("E:1|||1", 5);
        wrong("E:1_", 3);
        wrong("E:1,1", 3);
        wrong("G:a=1 E:aa", 9);
        wrong("E:12345 &", 2);
        wrong("E;12345", 1);
        fine("E:1!=1");
        wrong("E:1! =1", 3);
        wrong("E:!=1", 2);
    }

    private static void blocks() {
        fine("E:1");
        fine("E:1;2;3");
        fine("W:1 T:1");
        fine("G:1 E:1 W:1 T:1 E:1 C:1 D:a;1");
        fine("E:1E:1W:1T:1W:1T:1E:1");
        wrong("E:1 G:1", 4);
        wrong("G:1", 3);
        wrong("G:1 G:1 E:1", 4);
        wrong("G:1 T:1", 4);
        wrong("G:1 C:1", 4);
        wrong("G:1 D:a;1", 4);
        wrong("C:1", 0);
        wrong("D:a;1", 0);
        wrong("T:1", 0);
        wrong("X", 0);
        wrong("1", 0);
        wrong("W:1", 3);
        wrong("W:1 W:1", 4);
        wrong("W:1 E:1", 4);
        wrong("W:1 C:1", 4);
        wrong("W:1 T:1 T:1", 8);
        wrong("E:1 T:1", 4);
        wrong("E:1 C:1 C:1", 8);
        wrong("E:1 C:1 E:1", 8);
        wrong("E:1 D:a;1 C:1", 10);
        wrong("E:1 D:a;1 D:a;1", 10);
        wrong("E:1 D:a;1 E:1", 10);
        wrong("E", 1);
        wrong("E:", 2);
        wrong("E:  ", 4);
        wrong("E:1;", 4);
        wrong("E:;1", 2);
        wrong("E 1", 2);
        wrong("E:1::", 3);
        wrong("G E:1", 2);
        wrong("G:E:1", 2);
        wrong("W:T:1", 2);
        wrong("W:1 T:", 6);
        wrong("E:1 C:", 6);
        wrong("E:1 M", 4);
    }

    private static void steps() {
        fine("G:a=1;b=a;a+b;a==b E:a");
        fine("G:a=1;a E:1");
        wrong("G:a=E:1", 4);
        wrong("G:a=b=1 E:1", 5);
        wrong("G:1=2 E:1", 3);
        wrong("G:(a)=2 E:1", 5);
        wrong("G:a+a=1 E:1", 5);
        wrong("G:a=1,2 E:1", 5);
        wrong("E:a=1", 3);
        wrong("W:1 T:a=1", 7);
        wrong("G:X E:1", 2);
        wrong("G:!X E:1", 3);
        wrong("W:2-_*M(1) T:1", 4);
        fine("W:2*M(1)+1 T:1");
        wrong("E:X", 2);
    }

    private static void claims() {
        fine("W:1 T:X");
        fine("W:1 T:!X");
        fine("W:1 T:! X;X;1");
        fine("W:1 T:!(1);!!1;!1");
        wrong("W:1 T:!!X", 8);
        wrong("W:1 T:(X)", 7);
        wrong("W:1 T:X X", 8);
        wrong("W:1 T:X==1", 7);
        wrong("W:1 T:!X==1", 8);
        wrong("W:1 T:1+X", 8);
        wrong("W:1 T:X;", 8);
        wrong("W:1 T:-X", 7);
    }

    private static void rules() {
        fine("W:1 T:1*M(1)");
        fine("W:1 T:0-9999*N(!9999)>>1,-2,3");
        fine("W:1 T:3-_*N(_)>>-0;1 E:1");
        fine("W:1 T:3 - _ * N ( ! 4 ) >> - 1 , 2");
        fine("W:1 T:1*M(1)E:1");
        fine("W:1 T:2*3*M(1+1)");
        fine("W:1 T:2-3-1*M(1+1)");
        fine("W:1 T:2- -3*M(1+1)");
        fine("W:1 T:(2)*M(1+1)");
        fine("W:1 T:1+2*M(1+1)");
        fine("W:1 T:-2*M(1+1)");
        fine("W:1 T:2*O(1)*M(1+1)");
        fine("W:1 T:2/1*M(1+1)");
        fine("E:2*M(1+1)");
        fine("W:1 T:2-3;2*3;2");
        wrong("W:1 T:2*M(1+1)", 11);
        wrong("W:a=1 T:2*M(a)", 12);
        wrong("W:1 T:2-3*M((1))", 12);
        wrong("W:1 T:2*M(-1)", 10);
        wrong("W:1 T:2*M(!_)", 11);
        wrong("W:1 T:2*M(!-1)", 11);
        wrong("W:1 T:2*M(!!1)", 11);
        wrong("W:1 T:2*M()", 10);
        wrong("W:1 T:2*M 1", 10);
        wrong("W:1 T:2*M", 9);
        wrong("W:1 T:2*M(1", 11);
        wrong("W:1 T:2*M(1)==1", 12);
        wrong("W:1 T:2*M(1)+1", 12);
        wrong("W:1 T:2*M(1)*2", 12);
        wrong("W:1 T:2*M(1)>1", 12);
        wrong("W:1 T:2*M(1)>>", 14);
        wrong("W:1 T:2*M(1)>>a", 14);
        wrong("W:1 T:2*M(1)>>1,", 16);
        wrong("W:1 T:2*M(1)>>--1", 15);
        wrong("W:1 T:2*M(1)>>!1", 14);
        wrong("W:1 T:2*M(1)>>1+1", 15);
        wrong("W:1 T:2*M(1)>>1 1", 16);
        wrong("W:1 T:2*M(1),2", 12);
        wrong("W:1 T:2-_", 9);
        wrong("W:1 T:2-_*", 10);
        wrong("W:1 T:2-_*3", 10);
        wrong("W:1 T:2-_*O(1)", 10);
        wrong("W:1 T:2-_+M(1)", 9);
        wrong("W:1 T:_-2*M(1)", 6);
        wrong("W:1 T:2--1*M(_)", 13);
        wrong("W:1 T:12345*M(1)", 6);
        wrong("W:1 T:1;2*M(1+1)", 13);
        wrong("W:1 T:!2*M(_)", 11);
    }

    private static void tables() {
        fine("E:1 D:a;1");
        fine("E:1 D:a|b||c|d;1||2|3||4;-1|(1||2)|M(1)|1*2");
        wrong("E:1 D:a", 7);
        wrong("E:1 D:a;", 8);
        wrong("E:1 D:;1", 6);
        wrong("E:1 D:1;1", 6);
        wrong("E:1 D:a b;1", 8);
        wrong("E:1 D:a,b;1", 7);
        wrong("E:1 D:a|;1", 8);
        wrong("E:1 D:|a;1", 6);
        wrong("E:1 D:a|||b;1|1", 9);
        wrong("E:1 D:a;1|", 10);
        wrong("E:1 D:a;|1", 8);
        wrong("E:1 D:a;1;;1", 10);
        wrong("E:1 D:a;1==1", 9);
        wrong("E:1 D:a;1<1", 9);
        wrong("E:1 D:a;1&&1", 9);
        wrong("E:1 D:a;X", 8);
        wrong("E:1 D:a;O(1)", 8);
        wrong("E:1 D:a;a=1", 9);
        wrong("E:1 D a;1", 6);
        fine("E:1 D:a;(1==1&&0)");
    }

    private static void expressions() {
        fine("E:1||2&&3==4+5*6");
        fine("E:1||2||3&&4&&5");
        fine("E:1<2&&3<4||5>=6");
        fine("E:1+2<3*4");
        fine("E:(1<2)<3");
        fine("E:--1");
        fine("E:1--1");
        fine("E:1!=!1");
        wrong("E:1<2<3", 5);
        wrong("E:1==2!=3", 6);
        wrong("E:1+", 4);
        wrong("E:+1", 2);
        wrong("E:1*/2", 4);
        wrong("E:1 2", 4);
        wrong("E:()", 3);
        wrong("E:(1", 4);
        wrong("E:1)", 3);
        wrong("E:(1))", 5);
        wrong("E:(1;2)", 4);
        wrong("E:M", 3);
        wrong("E:M 1", 4);
        wrong("E:M()", 4);
        wrong("E:M(1", 5);
        wrong("E:M(1,2)", 5);
        wrong("E:(1=1)", 4);
        wrong("E:1||", 5);
        wrong("E:&&1", 2);
        wrong("E:1(2)", 3);
    }

    private static void depth() {
        fine("E:((((1))))");
        wrong("E:(((((1)))))", 6);
        fine("E:-!-!1");
        wrong("E:-!-!-1", 6);
        wrong("E:-!-!!1", 6);
        fine("E:-(-(1))");
        wrong("E:-(-((1)))", 6);
        fine("E:M(N(M(N(1))))");
        wrong("E:M(N(M(N(M(1)))))", 11);
        wrong("E:((((M(1)))))", 7);
        wrong("E:((((M+1))))", 7);
        wrong("E:((((-1))))", 6);
        fine("W:1 T:O(-M(-1))");
        wrong("W:1 T:O(-M(-(1)))", 12);
        wrong("W:1 T:((((O(1)))))", 11);
        fine("W:1 T:(((O(1))))");
        fine("E:((((1))))+((((1))))*-!-!1");
        fine("E:1----1");
        fine("E:1-----1");
        wrong("E:1------1", 8);
        fine("G:a=((((1)))) E:a");
        wrong("G:a=(((((1))))) E:a", 8);
        fine("E:1 D:a;((((1))))");
        wrong("E:1 D:a;(((((1)))))", 12);
    }

    private static void olds() {
        fine("W:1 T:O(1)");
        fine("W:1 T:M(O(1))+O(2)");
        fine("W:1 T:-O(M(1))");
        wrong("E:O(1)", 2);
        wrong("G:O(1) E:1", 2);
        wrong("W:O(1) T:1", 2);
        wrong("W:1 T:1 C:O(1)", 10);
        wrong("W:1 T:1 E:O(1)", 10);
        wrong("W:1 T:O(O(1))", 8);
        wrong("W:1 T:O(M(O(1)))", 10);
        wrong("W:1 T:O(1)+(1+O(2*O(1)))", 18);
        wrong("W:1 T:1 D:a;O(1)", 12);
        wrong("W:1 T:O(1) C:O(1)", 13);
        wrong("W:1 T:O 1", 8);
        wrong("W:1 T:O", 7);
        wrong("W:1 T:O()", 8);
        wrong("W:1 T:O=1", 7);
    }
}
