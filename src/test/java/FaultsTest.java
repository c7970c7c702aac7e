/** Promises 2 to 4: the tape, the language of the TEXT, FAULTS and their places. */
public final class FaultsTest {
    private static final String FOUR = "man 0 1;man 0 1;man 0 1;man 0 1;"; // 32 bytes

    public static void main(String[] args) {
        tape();
        lines();
        men();
        rows();
        mudAndSlack();
        rules();
        depth();
        afterFaults();
        Due.end();
    }

    private static void tape() {
        NightMarch x = new NightMarch();
        Due.is("no fault yet", -1, x::fault);
        Due.is("army beyond an empty tape", Due.ILLEGAL, () -> x.army(1));
        Due.is("army of nothing", 0, () -> x.army(0));
        for (int i = 1; i <= 35; i++) {
            Due.same("feed " + i, 20 * i, x.feed(0x20202020, 0x20202020, 0x20202020, 0x20202020, 0x20202020));
        }
        Due.is("feed beyond 700", -1, () -> x.feed(1, 2, 3, 4, 5));
        Due.is("bytes of the tape", 700, () -> x.count(11));
        Due.is("army below 0", Due.ILLEGAL, () -> x.army(-1));
        Due.is("army beyond the tape", Due.ILLEGAL, () -> x.army(701));
        Due.is("army of the least number", Due.ILLEGAL, () -> x.army(Integer.MIN_VALUE));
        Due.is("bytes behind a refused army", 700, () -> x.count(11));
        Due.is("status behind a refused army", 0, () -> x.count(12));
        Due.is("army of blanks", 0, () -> x.army(700));
        Due.is("the tape is empty then", 0, () -> x.count(11));
        Due.same("the highest byte comes first", 20, x.feed(0x6D756420, 0x373B2323, 0x80FF0001, -1, 0));
        Due.is("only the first n count", 0, () -> x.army(6));
        Due.is("mud of it", 7, () -> x.count(5));
        Due.is("what lies behind them is gone", 0, () -> x.count(11));
        cut(1, 7, "beats 41;", 7);
        cut(2, 6, "beats 41;", 8);
        cut(1, 5, "hearsx", 5);
        Due.fault(1, 0, "\u00ff");
        Due.fault(1, 6, "mud 7;\u0000");
        Due.fault(1, 2, "  \u00e1man");
    }

    /** A text that ends within what the tape has. */
    private static void cut(int kind, int place, String text, int n) {
        NightMarch x = new NightMarch();
        Due.tape(x, text);
        Due.is("army of " + n + " of " + text, kind, () -> x.army(n));
        Due.is("fault", place, x::fault);
    }

    private static void lines() {
        Due.good("");
        Due.good(" \n \n");
        Due.good("beats 4;");
        Due.good("beats 12;");
        Due.good("beats8;");
        Due.good("\nbeats\n0008\n;\n");
        Due.fault(2, 6, "beats 3;");
        Due.fault(2, 6, "beats 13;");
        Due.fault(2, 6, "beats 00008;");
        Due.fault(2, 6, "beats 99999999999999999999;");
        Due.fault(1, 5, "beats");
        Due.fault(1, 5, "beats;");
        Due.fault(1, 7, "beats 8");
        Due.fault(1, 9, "beats 8  ");
        Due.fault(1, 8, "beats 8 8;");
        Due.fault(1, 8, "beats 8 88888;");
        Due.fault(1, 6, "beats man;");
        Due.fault(1, 0, "Beats 8;");
        Due.fault(1, 0, "bEats 8;");
        Due.fault(1, 5, "beatsE 8;");
        Due.fault(1, 0, "beat 8;");
        Due.fault(1, 0, "beatss 8;");
        Due.fault(1, 0, "beatsz 8;");
        Due.fault(1, 0, ";");
        Due.fault(1, 8, "beats 8;;");
        Due.fault(1, 0, "4;");
        Due.fault(1, 0, "99999;");
        Due.fault(1, 0, "sum;");
        Due.fault(1, 0, "(");
        Due.fault(1, 5, "beats\t8;");
        Due.fault(5, 8, "beats 8;beats 3;");
        Due.fault(5, 9, "beats 8; beats");
    }

    private static void men() {
        Due.good("man 0 1;");
        Due.good("man 4095 9;");
        Due.good(FOUR + FOUR);
        Due.fault(2, 4, "man 4096 1;");
        Due.fault(2, 4, "man 4096 0;");
        Due.fault(2, 6, "man 0 0;");
        Due.fault(2, 6, "man 0 10;");
        Due.fault(2, 6, "man 0 00001;");
        Due.fault(1, 5, "man 0;");
        Due.fault(1, 8, "man 0 1 1;");
        Due.fault(1, 4, "man man 1;");
        Due.fault(1, 7, "man 0 1");
        Due.fault(1, 4, "man -1 1;");
        Due.fault(2, 64, FOUR + FOUR + "man");
        Due.fault(2, 64, FOUR + FOUR + "man 0 1;");
        Due.fault(1, 64, FOUR + FOUR + "men");
        NightMarch x = Due.of("man 4095 1;man 256 1;man 255 1;beats 5;");
        Due.is("bits beyond BEATS are none", 31, () -> x.man(0, 0));
        Due.is("bits beyond BEATS are none", 0, () -> x.man(1, 0));
        Due.is("bits beyond BEATS are none", 31, () -> x.man(2, 0));
        NightMarch y = Due.of("man 4095 1;");
        Due.is("8 BEATS without", 255, () -> y.man(0, 0));
    }

    private static void rows() {
        Due.good(FOUR + "row 0 1 2 3;");
        Due.good(FOUR + "row 3;row 1 0;");
        Due.fault(1, 3, "row;");
        Due.fault(1, 3, "row");
        Due.fault(1, 4, "row x;");
        Due.fault(3, 4, "row 0;");
        Due.fault(3, 4, "row 0;man 0 1;");
        Due.fault(3, 36, FOUR + "row 4;");
        Due.fault(3, 36, FOUR + "row 9999;");
        Due.fault(2, 36, FOUR + "row 10000;");
        Due.fault(2, 36, FOUR + "row 00000;");
        Due.fault(4, 38, FOUR + "row 0 0;");
        Due.fault(4, 42, FOUR + "row 0;row 0;");
        Due.fault(4, 44, FOUR + "row 0;row 1 0 9;");
        Due.fault(2, 44, FOUR + "row 0 1 2 3 3;");
        Due.fault(2, 44, FOUR + "row 0 1 2 3 9;");
        Due.fault(1, 44, FOUR + "row 0 1 2 3 x;");
        Due.fault(1, 37, FOUR + "row 0");
        String eight = FOUR + FOUR + "row 0;row 1;row 2;row 3;row 4;row 5;row 6;row 7;";
        Due.good(eight);
        Due.fault(2, 112, eight + "row 0;");
        Due.fault(2, 112, eight + "row");
        Due.fault(2, 112, eight + "row x");
    }

    private static void mudAndSlack() {
        Due.good("mud 0;");
        Due.good("mud 9 9 9 9 9 9 9 9;");
        Due.fault(1, 3, "mud;");
        Due.fault(2, 4, "mud 10;");
        Due.fault(2, 6, "mud 0 10;");
        Due.fault(1, 6, "mud 0 x;");
        Due.fault(2, 20, "mud 0 0 0 0 0 0 0 0 0;");
        Due.fault(2, 20, "mud 0 0 0 0 0 0 0 0 99;");
        Due.fault(5, 6, "mud 0;mud 1;");
        Due.good("slack 0;");
        Due.good("slack 12;");
        Due.fault(2, 6, "slack 13;");
        Due.fault(1, 6, "slack -1;");
        Due.fault(5, 8, "slack 1;slack 99;");
        NightMarch x = Due.of("mud 3 1 4;slack 12;");
        Due.is("mud of night 0", 3, () -> x.count(5));
        x.nights(1);
        Due.is("mud of night 1", 1, () -> x.count(5));
        x.nights(1);
        Due.is("mud of night 2", 4, () -> x.count(5));
        x.nights(1);
        Due.is("mud of night 3", 3, () -> x.count(5));
        Due.is("slack", 12, () -> x.count(3));
    }

    private static void rules() {
        Due.good("hears 1;");
        Due.good("hears sum+others*mud-beat/many<last;");
        Due.good("hears not 1<2 and not not sum=3 or(mud);");
        Due.good("hears 9999;");
        Due.fault(2, 6, "hears 10000;");
        Due.fault(2, 8, "hears 1+00000;");
        Due.fault(1, 5, "hears;");
        Due.fault(1, 5, "hears");
        Due.fault(1, 7, "hears 1");
        Due.fault(1, 6, "hears -1;");
        Due.fault(1, 6, "hears );");
        Due.fault(1, 8, "hears 1 2;");
        Due.fault(1, 8, "hears 1 sum;");
        Due.fault(1, 8, "hears 1 not 1;");
        Due.fault(1, 8, "hears 1 (1);");
        Due.fault(1, 8, "hears 1+;");
        Due.fault(1, 8, "hears 1++1;");
        Due.fault(1, 9, "hears 1<2<3;");
        Due.fault(1, 9, "hears 1=2<3;");
        Due.fault(1, 8, "hears (1;");
        Due.fault(1, 8, "hears (1");
        Due.fault(1, 7, "hears 1);");
        Due.fault(1, 7, "hears ();");
        Due.fault(1, 7, "hears 1#;");
        Due.fault(3, 6, "hears loud;");
        Due.fault(3, 6, "hears or;");
        Due.fault(3, 6, "hears man;");
        Due.fault(3, 6, "hears summ;");
        Due.fault(3, 6, "hears az;");
        Due.fault(1, 7, "hears  {;");
        Due.fault(1, 6, "hears `;");
        Due.fault(3, 8, "hears 1+not 1;");
        Due.fault(3, 8, "hears 1<not 1;");
        Due.fault(3, 12, "hears 1 and or;");
        Due.fault(3, 10, "hears not and;");
        Due.fault(3, 7, "hears (beats);");
        Due.fault(5, 8, "hears 1;hears;");
        Due.fault(5, 8, "hears 1;hears 1;");
        heard(15, "1");
        heard(0, "0");
        heard(0, "0-1");
        heard(15, "9999*9999*9999<0");
        heard(15, "2147*1000*1000*4<0");
        heard(0, "5/0");
        heard(15, "(0-7)/2=0-3");
        heard(15, "7-2-1=4");
        heard(15, "8/4/2=1");
        heard(15, "2+3*4=14");
        heard(15, "(2+3)*4=20");
        heard(15, "not 2=3");
        heard(0, "not not 7=1");
        heard(0, "not 7");
        heard(15, "(not not 7)=1");
        heard(15, "(1<2)=1");
        heard(15, "(2=2)=1");
        heard(15, "9999-9998");
        heard(15, "(2 and 3)=1");
        heard(15, "(0 or 0-5)=1");
        heard(15, "1 or 1 and 0");
        heard(0, "(1 or 1) and 0");
        heard(0, "0-5 and 0");
        heard(5, "sum");
        heard(6, "others");
        heard(5, "sum=3");
        heard(2, "others=4");
        heard(4, "others=2");
        heard(15, "mud=6");
        heard(8, "beat=3");
        heard(12, "1<beat");
        heard(15, "many=2");
        heard(1, "last=0 and beat<1");
        heard(5, "not last");
        heard(14, "last or beat=1");
    }

    /** What is heard of the ROW of 0 and 1, between that of 2 and that of 3. */
    private static void heard(int bits, String rule) {
        String men = "beats 4;man 1 3;man 4 3;man 2 4;man 4 2;man 8 9;row 2;row 0 1;row 3;mud 6;";
        NightMarch x = Due.of(men + "hears " + rule + ";");
        Due.is("heard by " + rule, bits, () -> x.row(1, 1));
    }

    private static void depth() {
        Due.good("hears (((((1)))));");
        Due.good("hears (((((not not not not not not 1)))));");
        Due.good("hears not not not not not not (not not not not not not 1);");
        Due.good("hears not not not not not not 1 and not not not not not not 1;");
        Due.good("hears ((((1)+(1))*((2)))+((((3)))));");
        Due.fault(2, 12, "hears ((((((1))))));");
        Due.fault(2, 12, "hears ((((((sum))))));");
        Due.fault(2, 12, "hears ((((((loud");
        Due.fault(2, 12, "hears ((((((or");
        Due.fault(2, 12, "hears ((((((not 1");
        Due.fault(2, 12, "hears (((((((1");
        Due.fault(2, 12, "hears ((((((99999");
        Due.fault(1, 12, "hears (((((();");
        Due.fault(1, 12, "hears ((((((;");
        Due.fault(1, 12, "hears ((((((+");
        Due.fault(1, 12, "hears ((((((#");
        Due.fault(1, 13, "hears (((((( ");
        Due.fault(2, 30, "hears not not not not not not not 1;");
        Due.fault(2, 30, "hears not not not not not not not");
        Due.fault(1, 29, "hears not not not not not not;");
        Due.fault(3, 30, "hears not not not not not not nor;");
        Due.fault(2, 31, "hears (not not not not not not not 1);");
    }

    private static void afterFaults() {
        NightMarch x = Due.of("beats 5;man 3 2;row 0;");
        x.heel(0, 2);
        x.see(0, 1, 0, true);
        x.image();
        Due.same("a faulty text", 1, Due.army(x, "beats 6;man 1 1;man;"));
        Due.is("its place", 19, x::fault);
        Due.is("all stays: BEATS", 5, () -> x.count(0));
        Due.is("all stays: MEN", 1, () -> x.count(1));
        Due.is("all stays: TREAD", 7, () -> x.man(0, 0));
        Due.is("all stays: ACTS", 1, () -> x.count(9));
        Due.is("all stays: SEEN", 1, () -> x.count(10));
        Due.isTrue("all stays: the image", x.restore());
        Due.is("the tape is empty", 0, () -> x.count(11));
        x.nights(2);
        x.loud(0, 0);
        x.see(0, 0, 0, true);
        Due.is("an army beyond the tape", Due.ILLEGAL, () -> x.army(1));
        Due.is("leaves the place", 19, x::fault);
        Due.same("a good text", 0, Due.army(x, "man 1 1;"));
        Due.is("no fault", -1, x::fault);
        Due.is("all anew: BEATS", 8, () -> x.count(0));
        Due.is("all anew: ROWS", 0, () -> x.count(2));
        Due.is("all anew: NIGHT", 0, () -> x.count(4));
        Due.is("all anew: HONOUR", 0, () -> x.count(6));
        Due.is("gone: ACTS", 0, () -> x.count(9));
        Due.is("gone: ACTS", -1, x::undo);
        Due.is("gone: SEEN", 0, () -> x.count(10));
        Due.isTrue("gone: the image", !x.restore());
        Due.is("STATUS stays", 1, () -> x.count(12));
        Due.is("STATUS stays", 1, () -> x.count(13));
        Due.is("STATUS stays", 1, () -> x.count(14));
    }
}
