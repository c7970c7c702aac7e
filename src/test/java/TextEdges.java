/** Boundary cases of the tape and of the TEXT: promises 1 to 4, and the terms that tell what an army is. */
final class TextEdges {
    private static final String EIGHT_MEN = "man 0 1;".repeat(8); // 64 bytes
    private static final String EIGHT_ROWS = "row 0;row 1;row 2;row 3;row 4;row 5;row 6;row 7;"; // 48 bytes
    private static final String ONE = "man 1 1;row 0;"; // 14 bytes
    private static final int BLANKS = 0x20202020;

    private TextEdges() {
    }

    private static int feedBlanks(NightMarch x) {
        return x.feed(BLANKS, BLANKS, BLANKS, BLANKS, BLANKS);
    }

    /** The rule is more than 0 at each BEAT, or at none. */
    private static void holds(boolean holds, String rule) {
        NightMarch x = Due.of(ONE + "hears " + rule + ";");
        Due.is("heard by " + rule, holds ? 255 : 0, () -> x.row(0, 1));
    }

    // ---- Promise 1

    @Edge(promise = 1, says = "8 BEATS, no MEN.")
    static void newObjectHas8BeatsAndNoMen() {
        NightMarch x = new NightMarch();
        int[] counts = {8, 0, 0, 2, 0, 2, 0, 0, 0, 0, 0, 0, 0, 0, 0};
        for (int what = 0; what < counts.length; what++) {
            Due.same("count " + what, counts[what], x.count(what));
        }
        Due.is("bits of 8 BEATS", -1, () -> x.nextTo(255));
        Due.is("bits of 9", Due.ILLEGAL, () -> x.nextTo(256));
        Due.is("no MAN", Due.NO_SUCH, () -> x.man(0, 0));
        Due.is("no ROW", Due.NO_SUCH, () -> x.row(0, 0));
    }

    @Edge(promise = {1, 49}, says = "The constants: `NONE = -1`: There is none; nobody.")
    static void noneIsBelow0() {
        Due.same("NONE", -1, NightMarch.NONE);
        NightMarch x = new NightMarch();
        Due.is("there is no FAULT", NightMarch.NONE, x::fault);
        Due.is("there is no ACT", NightMarch.NONE, x::undo);
        Due.is("nobody", NightMarch.NONE, () -> x.nextTo(0));
        Due.is("there is no ROW", NightMarch.NONE, x::loudest);
    }

    // ---- Promise 2

    @Edge(promise = 2, says = "NONE, and none come, if it would have more than 700.")
    static void tapeHas700AtMost() {
        NightMarch x = new NightMarch();
        for (int many = 20; many <= 680; many += 20) {
            Due.same("feed", many, feedBlanks(x));
        }
        Due.is("the last that come: 'beats 5;' and blanks", 700,
            () -> x.feed(0x62656174, 0x7320353B, BLANKS, BLANKS, BLANKS));
        Due.is("no more", -1, () -> x.feed(0x62656174, 0x7320363B, -1, -1, -1));
        Due.is("none came", 700, () -> x.count(11));
        Due.is("still no more", -1, () -> feedBlanks(x));
        Due.is("beyond the tape", Due.ILLEGAL, () -> x.army(701));
        Due.is("what came first is on it", 0, () -> x.army(700));
        Due.is("BEATS", 5, () -> x.count(0));
        Due.is("there is room again", 20, () -> feedBlanks(x));
    }

    @Edge(promise = 2, says = "Twenty bytes come behind the tape")
    static void bytesComeBehindTheTape() {
        NightMarch x = new NightMarch();
        Due.is("twenty", 20, () -> x.feed(0x62656174, BLANKS, BLANKS, BLANKS, BLANKS));
        Due.is("forty", 40, () -> x.feed(0x7320343B, BLANKS, BLANKS, BLANKS, BLANKS));
        Due.is("the blanks of the first lie between", 1, () -> x.army(40));
        Due.is("twenty again", 20, () -> x.feed(BLANKS, BLANKS, BLANKS, BLANKS, 0x62656174));
        Due.is("forty again", 40, () -> x.feed(0x7320343B, BLANKS, BLANKS, BLANKS, BLANKS));
        Due.is("'beat' and 's 4;' side by side", 0, () -> x.army(40));
        Due.is("BEATS", 4, () -> x.count(0));
    }

    @Edge(promise = 2, says = "of each number the highest first")
    static void highestByteComesFirst() {
        NightMarch x = new NightMarch();
        x.feed(0x62656174, 0x7320343B, BLANKS, BLANKS, BLANKS);
        Due.is("'beats 4;'", 0, () -> x.army(20));
        Due.is("BEATS", 4, () -> x.count(0));
        x.feed(BLANKS, BLANKS, BLANKS, BLANKS, 0x202020FF);
        Due.is("the last byte of all is none", 1, () -> x.army(20));
        Due.is("its place", 19, x::fault);
        x.feed(0x80202020, BLANKS, BLANKS, BLANKS, BLANKS);
        Due.is("the first byte of all is none", 1, () -> x.army(20));
        Due.is("its place", 0, x::fault);
    }

    // ---- Promise 3

    @Edge(promise = 3, says = "IllegalArgumentException: the tape has not so many, n below 0 (nothing changes).")
    static void armyOfMoreThanTheTapeHas() {
        NightMarch x = Due.of(ONE + "mud 7;");
        x.heel(0, 2);
        x.see(0, 1, 0, true);
        x.image();
        Due.tape(x, "beats 4;");
        int[] was = Due.whole(x);
        for (int bad : new int[] {-1, 21, Integer.MIN_VALUE, Integer.MAX_VALUE}) {
            Due.is("army " + bad, Due.ILLEGAL, () -> x.army(bad));
            Due.stays("army " + bad, was, x);
        }
        Due.is("no STATUS", 0, () -> x.count(12));
        Due.isTrue("the image is there", x.restore());
        Due.is("all that the tape has", 0, () -> x.army(20));
        Due.is("an empty tape has none", Due.ILLEGAL, () -> x.army(1));
        Due.is("but nothing", 0, () -> x.army(0));
    }

    @Edge(promise = 3, says = "The tape's first n bytes (it is empty then) are an ARMY")
    static void armyOfTheFirstBytes() {
        NightMarch x = new NightMarch();
        Due.tape(x, "beats 12;mud 5;#####");
        Due.is("what lies behind them doesn't count", 0, () -> x.army(15));
        Due.is("MUD", 5, () -> x.count(5));
        Due.is("it is empty then", 0, () -> x.count(11));
        Due.tape(x, "beats 12;mud 5;#####");
        Due.is("one byte fewer", 1, () -> x.army(14));
        Due.is("ends too soon", 14, x::fault);
        Due.is("it is empty with a FAULT, too", 0, () -> x.count(11));
        Due.tape(x, "beats 12;mud 5;#####");
        Due.is("one byte more", 1, () -> x.army(16));
        Due.is("is none", 15, x::fault);
        Due.tape(x, "#");
        Due.is("none of them", 0, () -> x.army(0));
        Due.is("it is empty then, too", 0, () -> x.count(11));
        Due.is("an ARMY without lines", 8, () -> x.count(0));
    }

    @Edge(promise = 3, says = "all anew: 0, or the FAULT (all stays)")
    static void armyIsAllAnew() {
        NightMarch x = Due.of("beats 4;man 3 2;man 12 5;row 1;row 0;mud 7 8;slack 0;hears 0;");
        x.nights(3);
        Due.same("a text with nothing in it", 0, Due.army(x, ""));
        int[] counts = {8, 0, 0, 2, 0, 2, 0, 0, 0, 0, 0, 0, 0, 0, 0};
        for (int what = 0; what < counts.length; what++) {
            Due.same("count " + what, counts[what], x.count(what));
        }
        Due.same("a man and a row", 0, Due.army(x, "man 255 3;row 0;"));
        Due.is("no rule is left", 255, () -> x.row(0, 1));
        Due.is("no HONOUR is left", 0, () -> x.man(0, 2));
        Due.same("a longer rule", 0, Due.army(x, "beats 12;man 4095 1;row 0;slack 0;hears not 1;"));
        Due.is("nothing is heard", 0, () -> x.row(0, 1));
        Due.is("he must have no BEATS", 12, () -> x.reform(0, 0));
        Due.same("a shorter rule, fewer BEATS", 0, Due.army(x, "beats 4;man 0 1;row 0;slack 0;hears 1;"));
        Due.is("all is heard", 15, () -> x.row(0, 1));
        Due.is("he must have all BEATS", 4, () -> x.reform(0, 0));
        Due.same("all BEATS", 0, Due.army(x, "beats 12;man 0 1;row 0;slack 0;hears 1;"));
        Due.is("he must have all twelve", 12, () -> x.reform(0, 0));
        Due.same("four again", 0, Due.army(x, "beats 4;man 0 1;row 0;slack 0;hears 1;"));
        Due.is("he must have all four", 4, () -> x.reform(0, 0));
    }

    @Edge(promise = 3, says = "all anew: 0, or the FAULT (all stays)")
    static void allStaysWithAFault() {
        NightMarch x = Due.of("beats 5;man 3 2;man 9 9;row 1;mud 3;slack 1;hears sum<3;");
        x.nights(2);
        x.see(0, 12, 4, true);
        x.image();
        x.loud(0, 4);
        int[] was = Due.whole(x);
        was[15] = 64;
        Due.same("a fault in the last byte", 1,
            Due.army(x, "beats 8;man 1 1;row 0;mud 8;slack 12;hears 1;man 0 1;man 0 1;row#"));
        Due.stays("the FAULT", was, x);
        Due.is("the ACT is there", 1, x::undo);
        Due.isTrue("the image is there", x.restore());
        Due.is("its ACT", 1, () -> x.count(9));
    }

    @Edge(promise = 3, says = "ACTS, what is SEEN, the image are gone (STATUS stays).")
    static void armyEndsActsSeenAndImage() {
        NightMarch x = Due.of(ONE);
        x.nights(1);
        x.see(0, 1, 0, false);
        x.image();
        x.nights(0);
        x.see(0, 0, 0, false);
        x.see(0, 13, 0, false);
        Due.army(x, "#");
        Due.same("the same army", 0, Due.army(x, ONE));
        Due.is("no ACTS", 0, () -> x.count(9));
        Due.is("none to be undone", -1, x::undo);
        Due.is("nothing SEEN", 0, () -> x.count(10));
        Due.is("all may have limped", 8, () -> x.limped(0));
        Due.isTrue("no image", !x.restore());
        Due.is("STATUS of TEXTS", 1, () -> x.count(12));
        Due.is("STATUS of ACTS", 1, () -> x.count(13));
        Due.is("STATUS of SEEN", 2, () -> x.count(14));
    }

    // ---- Promise 4

    @Edge(promise = 4, says = "The place of the latest army()'s FAULT; NONE without.")
    static void placeOfTheLatestFault() {
        NightMarch x = new NightMarch();
        Due.is("without army()", -1, x::fault);
        Due.army(x, "#");
        Due.is("at the first byte", 0, x::fault);
        Due.army(x, " ".repeat(699) + "#");
        Due.is("at the last of 700", 699, x::fault);
        Due.army(x, " ".repeat(693) + "beats 4");
        Due.is("at the length of 700", 700, x::fault);
        Due.is("an army() that throws", Due.ILLEGAL, () -> x.army(1));
        Due.is("changes nothing", 700, x::fault);
        Due.army(x, "");
        Due.is("without", -1, x::fault);
    }

    // ---- Terms: what an ARMY has

    @Edge(promise = {3, 5}, says = "BEATS 0, 1 .. (4 to 12; 8 without).")
    static void beats4To12() {
        Due.fault(2, 6, "beats 3;");
        Due.fault(2, 6, "beats 0;");
        Due.fault(2, 6, "beats 13;");
        Due.fault(2, 6, "beats 9999;");
        for (int beats = 4; beats <= 12; beats++) {
            int many = beats;
            NightMarch x = Due.of("beats " + beats + ";man 4095 1;");
            Due.is("BEATS", many, () -> x.count(0));
            Due.is("the last one", (1 << many - 1) - 1, () -> x.heel(0, many - 1));
            Due.is("none behind it", Due.NO_SUCH, () -> x.heel(0, many));
        }
        NightMarch y = Due.of("man 4095 1;");
        Due.is("without", 8, () -> y.count(0));
    }

    @Edge(promise = 3, says = "MEN 0, 1 .. (at most 8): a TREAD (bits of BEATS), LOUD (1 to 9).")
    static void men8AtMost() {
        NightMarch x = Due.of(EIGHT_MEN);
        Due.is("eight", 8, () -> x.count(1));
        Due.is("the last one", 0, () -> x.man(7, 0));
        Due.is("no ninth", Due.NO_SUCH, () -> x.man(8, 0));
        Due.fault(2, 64, EIGHT_MEN + "man 0 1;");
        NightMarch y = Due.of("");
        Due.is("none", 0, () -> y.count(1));
    }

    @Edge(promise = 3, says = "LOUD (1 to 9).")
    static void loud1To9() {
        Due.fault(2, 6, "man 0 0;");
        Due.fault(2, 6, "man 0 10;");
        NightMarch x = Due.of("man 0 1;man 0 9;");
        Due.is("LOUD 1", 1, () -> x.man(0, 1));
        Due.is("LOUD 9", 9, () -> x.man(1, 1));
    }

    @Edge(promise = 3, says = "THE MARCH: ROWS (at most 8)")
    static void rows8AtMost() {
        NightMarch x = Due.of(EIGHT_MEN + EIGHT_ROWS);
        Due.is("eight", 8, () -> x.count(2));
        Due.is("the last one", 128, () -> x.row(7, 0));
        Due.is("no ninth", Due.NO_SUCH, () -> x.row(8, 0));
        Due.fault(2, 112, EIGHT_MEN + EIGHT_ROWS + "row 0;");
        NightMarch y = Due.of("man 0 1;");
        Due.is("none", 0, () -> y.count(2));
    }

    @Edge(promise = 3, says = "of 1 to 4 MEN abreast")
    static void abreast1To4() {
        Due.fault(1, 67, EIGHT_MEN + "row;");
        NightMarch x = Due.of(EIGHT_MEN + "row 7;row 3 0 6 1;");
        Due.is("one", 128, () -> x.row(0, 0));
        Due.is("four", 64 + 8 + 2 + 1, () -> x.row(1, 0));
        Due.fault(2, 76, EIGHT_MEN + "row 3 0 6 1 2;");
    }

    @Edge(promise = 3, says = "(each MAN at most once in all; who isn't in it stays in camp)")
    static void eachManOnce() {
        Due.fault(4, 70, EIGHT_MEN + "row 7 7;");
        Due.fault(4, 74, EIGHT_MEN + "row 7;row 7;");
        NightMarch x = Due.of(EIGHT_MEN);
        Due.is("all in camp", 255, () -> x.count(7));
        NightMarch y = Due.of(EIGHT_MEN + "row 6 0;");
        Due.is("six in camp", 255 - 64 - 1, () -> y.count(7));
        Due.is("one of them", -1, () -> y.man(7, 3));
        NightMarch z = Due.of(EIGHT_MEN + EIGHT_ROWS);
        Due.is("none in camp", 0, () -> z.count(7));
    }

    @Edge(promise = 3, says = "MUD (1 to 8 numbers, 0 to 9 each)")
    static void muds1To8() {
        Due.fault(1, 3, "mud;");
        Due.good("mud 0;");
        Due.good("mud 1 2 3 4 5 6 7 8;");
        Due.fault(2, 20, "mud 1 2 3 4 5 6 7 8 9;");
        Due.good("mud 9;");
        Due.fault(2, 4, "mud 10;");
        Due.fault(2, 18, "mud 1 2 3 4 5 6 7 10;");
    }

    @Edge(promise = {3, 5}, says = "that of NIGHT k is the (k MOD how many)-th; 2 without.")
    static void mudGoesRound() {
        NightMarch x = Due.of("mud 9 8 7 6 5 4 3 1;");
        int[] mud = {9, 8, 7, 6, 5, 4, 3, 1};
        for (int night = 0; night <= 17; night++) {
            Due.same("MUD of NIGHT " + night, mud[night % 8], x.count(5));
            x.nights(1);
        }
        NightMarch y = Due.of("mud 7;");
        y.nights(1);
        Due.is("of one number", 7, () -> y.count(5));
        NightMarch z = Due.of("");
        z.nights(20);
        Due.is("without", 2, () -> z.count(5));
    }

    @Edge(promise = {3, 5}, says = "SLACK (0 to 12; 2 without).")
    static void slack0To12() {
        NightMarch x = Due.of("slack 0;");
        Due.is("SLACK 0", 0, () -> x.count(3));
        NightMarch y = Due.of("slack 12;");
        Due.is("SLACK 12", 12, () -> y.count(3));
        Due.fault(2, 6, "slack 13;");
        NightMarch z = Due.of("");
        Due.is("without", 2, () -> z.count(3));
    }

    // ---- Terms: TOKENS

    @Edge(promise = 3, says = "A TEXT of at most 700 bytes tells it.")
    static void textOf700() {
        // 338 ones are added up, the last one by the last byte but one.
        String sum = "1" + "+1".repeat(337);
        NightMarch x = Due.of(ONE + "hears 337<" + sum + ";");
        Due.is("more than 337", 255, () -> x.row(0, 1));
        NightMarch y = Due.of(ONE + "hears 338<" + sum + ";");
        Due.is("no more than 338", 0, () -> y.row(0, 1));
        NightMarch z = new NightMarch();
        Due.tape(z, ONE + "hears 337<" + sum + ";");
        Due.is("699 of it", 1, () -> z.army(699));
        Due.is("end too soon", 699, z::fault);
    }

    @Edge(promise = 3, says = "words (a .. z, the longest row)")
    static void wordsAreTheLongestRow() {
        Due.fault(3, 6, "hears a;");
        Due.fault(3, 6, "hears z;");
        Due.fault(1, 6, "hears `;"); // ahead of a
        Due.fault(1, 6, "hears {;"); // behind z
        Due.fault(1, 6, "hears A;");
        Due.fault(1, 0, "slacka 1;");
        Due.fault(1, 0, "slackz 1;");
        Due.fault(1, 0, "slac 1;");
        Due.fault(1, 0, "flack 1;");
        Due.fault(1, 0, "slacj 1;");
        Due.fault(1, 5, "slack{ 1;");
        Due.fault(3, 6, "hears summ;");
        Due.fault(3, 6, "hears su;");
        Due.fault(3, 6, "hears rum;");
        Due.good("slack1;");
        Due.good("hears 1and 2or 3;");
        Due.fault(1, 0, "sl ack 1;");
    }

    @Edge(promise = 3, says = "NUMBERS (1 to 4 digits)")
    static void numbersOf1To4Digits() {
        Due.good("slack 0;");
        Due.good("slack 0012;");
        Due.fault(2, 6, "slack 00012;");
        holds(true, "9999=9998+1");
        Due.fault(2, 6, "hears 09999;");
        Due.fault(1, 7, "slack 1:;"); // behind 9
        Due.fault(1, 7, "slack 1.;"); // ahead of / and 0
    }

    @Edge(promise = 3, says = "signs ; ( ) + - * / < =")
    static void everyByteBehindANumber() {
        for (int sign = 0; sign < 256; sign++) {
            String text = "hears 1" + (char) sign + "1;";
            if ("+-*/<=0123456789".indexOf(sign) >= 0) {
                Due.good(text);
            } else if (sign == ' ' || sign == '\n' || sign == ';') {
                Due.fault(1, 8, text);
            } else {
                Due.fault(1, 7, text);
            }
        }
    }

    @Edge(promise = 3, says = "blanks (32, 10) between them count for nothing.")
    static void everyByteAsAPart() {
        for (int sign = 0; sign < 256; sign++) {
            String text = "hears " + (char) sign + ";";
            if (sign >= '0' && sign <= '9') {
                Due.good(text);
            } else if (sign >= 'a' && sign <= 'z') {
                Due.fault(3, 6, text);
            } else {
                Due.fault(1, sign == ' ' || sign == '\n' || sign == '(' ? 7 : 6, text);
            }
        }
        Due.good("\n \nman\n\n1 \n 1\n;\n");
        Due.good("man1 1;row0;mud1;hears(1)<2;");
        Due.fault(1, 6, "man 11;");
    }

    @Edge(promise = 3, says = "ARMY: LINE*.")
    static void noLineIsAnArmy() {
        Due.good("");
        Due.good(" ");
        Due.good("\n");
        Due.good(" ".repeat(700));
        Due.fault(1, 0, ";");
        Due.fault(1, 8, "slack 1;;");
    }

    // ---- Terms: EXPR

    @Edge(promise = 3, says = "SUM [('<' | '=') SUM]")
    static void oneTestAtMost() {
        Due.good("hears 1;");
        Due.good("hears 1<2;");
        Due.fault(1, 9, "hears 1<2<3;");
        Due.fault(1, 9, "hears 1=2=3;");
        Due.good("hears (1<2)<3;");
        Due.good("hears 1<(2<3);");
    }

    @Edge(promise = 3, says = "From the left; ints that wrap")
    static void fromTheLeft() {
        holds(true, "9-5-3=1");
        holds(true, "9-(5-3)=7");
        holds(true, "64/4/2=8");
        holds(true, "7/2*2=6");
        holds(true, "2*7/2=7");
        holds(true, "2-1+1=2");
        holds(true, "1 or 0 and 0");
        holds(true, "not 0 and 1");
        holds(false, "not (0 or 1)");
        holds(true, "(not 1=2)=1");
    }

    @Edge(promise = 3, says = "ints that wrap")
    static void intsWrap() {
        holds(true, "8192*8192*32-1");   // the greatest int
        holds(false, "8192*8192*32");    // the least one
        holds(true, "8192*8192*32<0");
        holds(true, "0-8192*8192*32<0"); // is itself
        holds(false, "8192*8192*64");    // 0
        holds(true, "8192*8192*64+1");
        holds(true, "8192*8192*32-1+1<0");
        holds(true, "0<0-8192*8192*32-1");
        holds(true, "8192*8192*32/(0-1)<0"); // which wraps, too
    }

    @Edge(promise = 3, says = "/ cut down to 0, by 0 gives 0")
    static void divisionCutsTo0() {
        holds(true, "7/2=3");
        holds(true, "(0-7)/2=0-3");
        holds(true, "7/(0-2)=0-3");
        holds(true, "(0-7)/(0-2)=3");
        holds(true, "(0-1)/2=0");
        holds(true, "1/1=1");
        holds(true, "1/0=0");
        holds(true, "0/0=0");
        holds(true, "(0-9)/0=0");
        holds(true, "9/(1-1)+1=1");
    }

    @Edge(promise = 3, says = "tests, not, and, or are 1 or 0 (what isn't 0 holds).")
    static void whatIsNot0Holds() {
        holds(true, "(1<2)=1");
        holds(true, "(2<2)=0");
        holds(true, "(3<2)=0");
        holds(true, "(2=2)=1");
        holds(true, "(2=3)=0");
        holds(true, "(not 0)=1");
        holds(true, "(not 5)=0");
        holds(true, "(not (0-1))=0");
        holds(true, "(5 and (0-1))=1");
        holds(true, "(5 and 0)=0");
        holds(true, "(0 and 5)=0");
        holds(true, "(0 or (0-1))=1");
        holds(true, "((0-1) or 0)=1");
        holds(true, "(0 or 0)=0");
    }

    @Edge(promise = 7, says = "'sum' (LOUD of all MEN of it whose TREAD has that BEAT, together)")
    static void sumOfNoneAndOfFour() {
        String four = "beats 4;man 1 9;man 3 9;man 7 9;man 15 9;man 15 9;row 0 1 2 3;";
        for (int beat = 0; beat < 4; beat++) {
            NightMarch x = Due.of(four + "hears sum=" + 9 * (4 - beat) + ";");
            Due.is("four, three, two, one of them", 1 << beat, () -> x.row(0, 1));
        }
        NightMarch y = Due.of("beats 4;man 0 9;man 15 9;row 0;hears sum=0;");
        Due.is("none of them, who is in camp doesn't count", 15, () -> y.row(0, 1));
    }

    @Edge(promise = 7, says = "'others' (that of the ROWS next to it ahead and behind, likewise)")
    static void othersAtBothEnds() {
        String four = "beats 4;man 1 1;man 1 2;man 1 4;man 1 9;row 0;row 1;row 2;row 3;hears others=";
        int[][] heard = {{2, 1, 0, 0, 0}, {5, 0, 1, 0, 0}, {11, 0, 0, 1, 0}, {4, 0, 0, 0, 1}, {0, 14, 14, 14, 14}};
        for (int[] due : heard) {
            NightMarch x = Due.of(four + due[0] + ";");
            for (int row = 0; row < 4; row++) {
                Due.same("others of ROW " + row + " are " + due[0], due[row + 1], x.row(row, 1));
            }
        }
        NightMarch two = Due.of("beats 4;man 1 3;man 1 5;row 0;row 1;hears others=5;");
        Due.is("one beside it counts once", 1, () -> two.row(0, 1));
        NightMarch one = Due.of("beats 4;man 15 3;row 0;hears others=0;");
        Due.is("none beside it", 15, () -> one.row(0, 1));
    }

    @Edge(promise = 7, says = "'many' (how many MEN are abreast)")
    static void manyFrom0To4() {
        NightMarch x = Due.of("beats 4;" + EIGHT_MEN + "row 0 1 2 3;row 4;hears many=4;");
        Due.is("four", 15, () -> x.row(0, 1));
        Due.is("one", 0, () -> x.row(1, 1));
        x.put(0, 1);
        Due.is("three", 0, () -> x.row(0, 1));
        NightMarch y = Due.of("beats 4;" + EIGHT_MEN + "row 0;row 1;hears many=0;");
        Due.is("one", 0, () -> y.row(0, 1));
        y.put(0, -1);
        Due.is("none", 15, () -> y.row(0, 1));
    }

    @Edge(promise = 7, says = "'last' (1, if the BEAT ahead was heard of this ROW, else 0; 0 at BEAT 0).")
    static void lastAtBeat0() {
        NightMarch x = Due.of("beats 12;man 4095 1;man 0 1;row 0;row 1;hears last;");
        Due.is("never", 0, () -> x.row(0, 1));
        NightMarch y = Due.of("beats 12;man 4095 1;man 0 1;row 0;row 1;hears not last;");
        Due.is("every other one", 0x555, () -> y.row(0, 1));
        Due.is("of the next ROW alike", 0x555, () -> y.row(1, 1));
        NightMarch z = Due.of("beats 12;man 2048 1;man 0 1;row 0;row 1;hears sum or last;");
        Due.is("only the last one", 2048, () -> z.row(0, 1));
        Due.is("it is not ahead of the next ROW's first", 0, () -> z.row(1, 1));
        NightMarch w = Due.of("beats 12;man 1 1;row 0;hears sum or last;");
        Due.is("from the first one to the last", 4095, () -> w.row(0, 1));
        NightMarch v = Due.of("beats 12;man 1 1;row 0;hears (sum or last)*7;");
        Due.is("heard is 1, however much", 4095, () -> v.row(0, 1));
        NightMarch u = Due.of("beats 12;man 1 1;row 0;hears sum*3+(last=1);");
        Due.is("which is just 1", 4095, () -> u.row(0, 1));
    }

    // ---- Terms: FAULTS

    @Edge(promise = {3, 4}, says = "FAULTS, the first along the text, at a TOKEN's first byte")
    static void firstFaultAlongTheText() {
        Due.fault(2, 6, "beats 3;#");
        Due.fault(5, 8, "beats 8;beats 3;#");
        Due.fault(1, 8, "beats 8 # beats 3;");
        Due.fault(2, 8, "beats   12345;beats 8;");
        Due.fault(2, 4, "man 4096 0;");
        Due.fault(3, 8, "hears\n\n\nboot 12345;");
    }

    @Edge(promise = {3, 4}, says = "of one TOKEN the least")
    static void leastOfOneToken() {
        Due.fault(1, 8, "beats 8 12345;");                     // not 2
        Due.fault(1, 0, "12345;");                             // not 2
        Due.fault(2, 76, EIGHT_MEN + "row 0 1 2 3 8;");        // not 3
        Due.fault(2, 76, EIGHT_MEN + "row 0 1 2 3 3;");        // not 4
        Due.fault(2, 68, EIGHT_MEN + "row 12345;");            // not 3
        Due.fault(2, 70, EIGHT_MEN + "row 0 00000;");          // not 4
        Due.fault(2, 12, "hears ((((((boot");                  // not 3
        Due.fault(1, 12, "hears (((((()");                     // not 2
        Due.fault(1, 76, EIGHT_MEN + "row 0 1 2 3 x;");        // not 2
        Due.fault(1, 20, "mud 0 0 0 0 0 0 0 0 x;");            // not 2
    }

    @Edge(promise = {3, 4}, says = "1 a TOKEN that can't stand there, or is none (the text's length where it ends too soon)")
    static void textEndsTooSoon() {
        String[] cut = {
            "beats", "beats 8", "man", "man 1", "man 1 1", "man 1 1;row", ONE.substring(0, 13), "mud", "mud 1", "slack",
            "slack 1", "hears", "hears 1", "hears 1+", "hears 1<", "hears not", "hears 1 and", "hears 1 or", "hears (",
            "hears (1", "hears (1)", "hears sum*", "hears sum/",
        };
        for (String text : cut) {
            Due.fault(1, text.length(), text);
            Due.fault(1, text.length() + 3, text + " \n ");
        }
    }

    @Edge(promise = {3, 4}, says = "1 a TOKEN that can't stand there, or is none (the text's length where it ends too soon)")
    static void tokenThatCannotStand() {
        for (String start : new String[] {"1", "(", ")", "+", "<", ";", "sum", "not", "or", "x", "#"}) {
            Due.fault(1, 0, start);
            Due.fault(1, 8, "slack 1;" + start);
        }
        for (String behind : new String[] {"beats", "man", "row", "mud", "slack"}) {
            for (String other : new String[] {";", "(", "-", "man", "x", "#"}) {
                Due.fault(1, behind.length() + 1, behind + " " + other + ";");
            }
        }
        Due.fault(1, 6, "man 1 ;");
        Due.fault(1, 8, "man 1 1 1;");
        Due.fault(1, 8, "slack 1 man 1 1;");
        Due.fault(1, 8, "hears 1 1;");
        Due.fault(1, 8, "hears 1 not 1;");
        Due.fault(1, 7, "hears ();");
        Due.fault(1, 7, "hears 1);");
    }

    @Edge(promise = {3, 4}, says = "a NUMBER of 5 digits or more, or (not in an EXPR) not as told (a TREAD to 4095)")
    static void numberThatIsTooMuch() {
        Due.good("man 0 1;");
        Due.good("man 4095 1;");
        Due.fault(2, 4, "man 4096 1;");
        Due.fault(2, 4, "man 9999 1;");
        Due.fault(2, 4, "man 00000 1;");
        Due.fault(2, 6, "man 0 00001;");
        Due.fault(2, 4, "mud 00000;");
        Due.fault(2, 6, "slack 00000;");
        Due.fault(2, 6, "beats 4294967300;"); // which would wrap to 4
        Due.good("hears 0;");
        Due.good("hears 4096+9999;");
        Due.fault(2, 6, "hears 10000;");
        Due.fault(2, 6, "hears 00000000000000000000001;");
    }

    @Edge(promise = {3, 4}, says = "the first TOKEN of the 9th MAN, the 9th ROW, the 5th MAN of a ROW, the 9th number of MUD")
    static void firstTokenOfOneTooMany() {
        Due.fault(2, 66, EIGHT_MEN + "  man");
        Due.fault(2, 64, EIGHT_MEN + "man 4096 0;");
        Due.fault(2, 113, EIGHT_MEN + EIGHT_ROWS + "\nrow");
        Due.fault(2, 112, EIGHT_MEN + EIGHT_ROWS + "row x");
        Due.fault(2, 77, EIGHT_MEN + "row 0 1 2 3  4");
        Due.fault(2, 21, "mud 0 0 0 0 0 0 0 0  0");
        Due.fault(2, 20, "mud 0 0 0 0 0 0 0 0 10;");
    }

    @Edge(promise = {3, 4}, says = "of an EXPR within 6 others (a NUMBER, any word, a parenthesis)")
    static void exprWithin6Others() {
        for (String first : new String[] {"1", "12345", "sum", "boot", "not 1", "or", "and", "beats", "("}) {
            Due.fault(2, 12, "hears ((((((" + first);
        }
        for (String first : new String[] {")", ";", "+", "<", "*", "#", "A"}) {
            Due.fault(1, 12, "hears ((((((" + first);
        }
        Due.fault(1, 12, "hears ((((((");
        Due.good("hears (((((1)))));");
        Due.good("hears (((((sum)))))+(((((not mud)))));");
        Due.fault(3, 11, "hears (((((boot)))));");
        Due.fault(1, 11, "hears ((((())))));");
        Due.fault(2, 16, "hears (((((1+1*(1))))));");
    }

    @Edge(promise = {3, 4}, says = "the seventh 'not' side by side")
    static void seventhNot() {
        String six = "not not not not not not ";
        Due.good("hears " + six + "1;");
        Due.fault(2, 30, "hears " + six + "not 1;");
        Due.fault(2, 30, "hears " + six + "not");
        Due.good("hears " + six + "(" + six + "1);");
        Due.good("hears " + six + "1 and " + six + "1 or " + six + "1;");
        Due.fault(2, 31 + 24, "hears " + six + "(" + six + "not 1);");
        holds(true, six + "1");
        holds(false, six + "0");
        holds(false, "not " + six.substring(8) + "1");
    }

    @Edge(promise = {3, 4}, says = "3 any word where a PART must stand that is no VALUE, a MAN that isn't told ahead")
    static void wordThatIsNoValue() {
        for (String word : new String[] {"beats", "man", "row", "slack", "hears", "or", "and", "loud", "sums", "a"}) {
            Due.fault(3, 6, "hears " + word + ";");
            Due.fault(3, 7, "hears (" + word + ";");
            Due.fault(3, 8, "hears 1+" + word + ";");
            Due.fault(3, 10, "hears not " + word + ";");
        }
        for (String value : new String[] {"sum", "others", "mud", "beat", "many", "last"}) {
            Due.good("hears " + value + ";");
            Due.fault(1, 8, "hears 1 " + value + ";");
        }
        for (String sign : new String[] {"+", "-", "*", "/", "<", "="}) {
            Due.fault(3, 8, "hears 1" + sign + "not 1;");
        }
        Due.good("hears not 1;");
        Due.good("hears (not 1);");
    }

    @Edge(promise = {3, 4}, says = "a MAN that isn't told ahead")
    static void manNotToldAhead() {
        Due.fault(3, 4, "row 0;");
        Due.fault(3, 4, "row 0;man 0 1;");
        Due.good("man 0 1;row 0;");
        Due.fault(3, 12, "man 0 1;row 1;man 0 1;");
        Due.good("man 0 1;man 0 1;row 1;");
        Due.good(EIGHT_MEN + "row 7;");
        Due.fault(3, 68, EIGHT_MEN + "row 8;");
        Due.fault(3, 70, EIGHT_MEN + "row 7 9999;");
    }

    @Edge(promise = {3, 4}, says = "4 a MAN who is in a ROW already")
    static void manInARowAlready() {
        Due.fault(4, 74, EIGHT_MEN + "row 0 1 2 0;");
        Due.fault(4, 80, EIGHT_MEN + "row 0 1 2 3;row 3;");
        Due.good(EIGHT_MEN + "row 0 1 2 3;row 4;");
    }

    @Edge(promise = {3, 4}, says = "5 a second 'beats', 'mud', 'slack', 'hears'.")
    static void secondLine() {
        Due.fault(5, 8, "beats 8;beats 8;");
        Due.fault(5, 8, "beats 8;beats");
        Due.fault(5, 6, "mud 1;mud 1;");
        Due.fault(5, 8, "slack 1;slack 1;");
        Due.fault(5, 8, "hears 1;hears 1;");
        Due.fault(5, 31, "beats 8;mud 1;slack 1;hears 1;\nmud");
        Due.good("beats 8;mud 1;slack 1;hears 1;" + EIGHT_MEN + EIGHT_ROWS);
    }

    @Edge(promise = 3, says = "(Bits of a TREAD beyond BEATS are none.)")
    static void bitsBeyondBeats() {
        for (int beats = 4; beats <= 12; beats++) {
            int many = beats;
            int lastBeat = 1 << many - 1;
            int beyond = 4095 & ~(2 * lastBeat - 1);
            NightMarch x = Due.of("man 4095 1;man " + lastBeat + " 1;beats " + many + ";man " + beyond + " 1;");
            Due.is("all of them", (1 << many) - 1, () -> x.man(0, 0));
            Due.is("the last one", 1 << many - 1, () -> x.man(1, 0));
            Due.is("none", 0, () -> x.man(2, 0));
            Due.is("FAR", many, () -> x.far(0, 2));
        }
        NightMarch y = Due.of("man 4095 1;man 256 1;");
        Due.is("8 without", 255, () -> y.man(0, 0));
        Due.is("none", 0, () -> y.man(1, 0));
    }
}
