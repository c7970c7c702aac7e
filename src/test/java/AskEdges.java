import java.util.ArrayList;
import java.util.List;

/** Boundary cases of what will be heard, how treads lie, who passes for whom, and of reviews: promises 14 to 26. */
final class AskEdges {
    /** Three alone, by MUD: all NAMED in the first NIGHT of three, 1 and 2 in the second, 2 in the third. */
    private static final String THREE = "beats 4;man 1 3;man 2 5;man 4 7;row 0;row 1;row 2;mud 2 4 6;slack 0;";
    /** 5 is heard only in front of all, which is so in every seventh NIGHT, and only in every eighth NIGHT. */
    private static final String ONCE = "man 4 1;man 8 1;man 16 1;man 32 1;man 3 1;man 1 1;man 64 1;row 0;row 1;row 2;row 3;"
        + "row 4;row 5;row 6;slack 0;mud 1 0 0 0 0 0 0 0;hears sum and mud=1 and others=0;";
    /** All is heard of all, so that 7 is NAMED for each ROW. */
    private static final String LAST = "beats 4;" + "man 0 1;".repeat(7) + "man 15 1;"
        + "row 0;row 1;row 2;row 3;row 4;row 5;row 6;row 7;slack 0;hears 1;";
    /** Four alike abreast, one alike in camp. */
    private static final String FOUR = "beats 4;" + "man 1 1;".repeat(5) + "row 0 1 2 3;mud 0;slack 0;";

    private AskEdges() {
    }

    // ---- Promise 14

    @Edge(promise = 14, says = "in so many NIGHTS (0 to 40)")
    static void thenIn0To40() {
        NightMarch x = Due.of(ONCE);
        for (int what = 0; what < 2; what++) {
            int asked = what;
            Due.within("nights", 0, 40, Due.ILLEGAL, nights -> x.then(0, nights, asked));
        }
        Due.is("HEARD in none, as it is", x.row(0, 1), () -> x.then(0, 0, 0));
        Due.is("NAMED in none, as it is", x.row(0, 2), () -> x.then(0, 0, 1));
        Due.is("HEARD in 40", 1, () -> x.then(0, 40, 0));
        Due.is("NAMED in 40", 5, () -> x.then(0, 40, 1));
        Due.is("HEARD in 39", 0, () -> x.then(0, 39, 0));
        Due.is("NAMED in 39", -1, () -> x.then(0, 39, 1));
        for (int i = 0; i < 49; i++) {
            x.nights(20);
        }
        x.nights(19);
        Due.is("the last NIGHT", 999, () -> x.count(4));
        // NIGHT 1000 has the first MUD of eight, as 1000 MOD 8 is 0; ROW 6 is in front then, as 1000 MOD 7 is 6.
        Due.is("HEARD behind the last NIGHT", 64, () -> x.then(0, 1, 0));
        Due.is("NAMED behind the last NIGHT", 6, () -> x.then(0, 1, 1));
    }

    @Edge(promise = 14, says = "NoSuchElementException: also another what. IllegalArgumentException (behind that): not 0 to 40.")
    static void thenWhatIsWrongFirst() {
        NightMarch x = Due.of(THREE);
        Due.within("row", 0, 2, Due.NO_SUCH, row -> x.then(row, 0, 0));
        Due.within("what", 0, 1, Due.NO_SUCH, what -> x.then(0, 40, what));
        Due.is("row and nights", Due.NO_SUCH, () -> x.then(3, 41, 0));
        Due.is("what and nights", Due.NO_SUCH, () -> x.then(0, -1, 2));
        Due.is("all three", Due.NO_SUCH, () -> x.then(-1, 41, -1));
        Due.is("nights alone", Due.ILLEGAL, () -> x.then(2, 41, 1));
        Due.is("no ROW at all", Due.NO_SUCH, () -> new NightMarch().then(0, 0, 0));
    }

    @Edge(promise = 14, says = "THEN: HEARD (what 0), NAMED (1; NONE).")
    static void thenNobody() {
        NightMarch x = Due.of(THREE);
        int[][] heard = {{1, 2, 4}, {2, 4, 0}, {4, 0, 0}};
        int[][] named = {{0, 1, 2}, {1, 2, -1}, {2, -1, -1}};
        for (int night = 0; night <= 40; night++) {
            for (int row = 0; row < 3; row++) {
                Due.same("HEARD of " + row + " in " + night, heard[night % 3][row], x.then(row, night, 0));
                Due.same("NAMED for " + row + " in " + night, named[night % 3][row], x.then(row, night, 1));
            }
        }
    }

    // ---- Promise 15

    @Edge(promise = 15, says = "IllegalArgumentException (behind NoSuchElementException): not 0 to 40.")
    static void honourIn0To40() {
        NightMarch x = Due.of(ONCE);
        Due.within("nights", 0, 40, Due.ILLEGAL, nights -> x.honour(0, nights));
        Due.within("man", 0, 6, Due.NO_SUCH, man -> x.honour(man, 40));
        Due.is("man and nights", Due.NO_SUCH, () -> x.honour(7, 41));
        Due.is("man and nights", Due.NO_SUCH, () -> x.honour(-1, -1));
        Due.is("in 40: not in the 41st", 0, () -> x.honour(5, 40));
        x.nights(1);
        Due.is("in 39: not in the 40th", 0, () -> x.honour(5, 39));
        Due.is("in 40", 1, () -> x.honour(5, 40));
        x.nights(20);
        x.nights(20);
        Due.is("in none, as it is", 1, () -> x.honour(5, 0));
    }

    // ---- Promise 16

    @Edge(promise = 16, says = "FIRST: the NIGHT from now (1 to 40) in which a MAN is NAMED first; none.")
    static void firstFrom1To40() {
        NightMarch x = Due.of(ONCE);
        Due.is("the 41st is none", -1, () -> x.first(5));
        x.nights(1);
        Due.is("the 40th", 40, () -> x.first(5));
        x.nights(1);
        Due.is("the 39th", 39, () -> x.first(5));
        x.nights(20);
        x.nights(18);
        Due.is("the next one", 1, () -> x.first(5));
        x.nights(1);
        Due.is("that has gone by", -1, () -> x.first(5));
        Due.within("man", 0, 6, Due.NO_SUCH, x::first);
        Due.is("nobody", Due.NO_SUCH, () -> new NightMarch().first(0));
    }

    @Edge(promise = 16, says = "FIRST; NONE: none.")
    static void firstOfOneWhoIsNeverNamed() {
        NightMarch x = Due.of("beats 4;man 1 1;man 1 1;man 2 1;row 1;mud 0;slack 0;");
        Due.is("in camp, like one who is heard", 1, () -> x.first(0));
        Due.is("in the ROW, behind one like him", -1, () -> x.first(1));
        Due.is("in camp", -1, () -> x.first(2));
        NightMarch camp = Due.of("man 1 1;");
        Due.is("no ROWS", -1, () -> camp.first(0));
    }

    // ---- Promise 17

    @Edge(promise = 17, says = "MISTAKEN in the k-th NIGHT from now (1 to 40)")
    static void mistakenIn1To40() {
        NightMarch x = Due.of(LAST);
        Due.within("mistaken", 1, 40, Due.ILLEGAL, x::mistaken);
        Due.is("all but the last ROW", 127, () -> x.mistaken(1));
        Due.is("all but the last but one", 191, () -> x.mistaken(2));
        Due.is("all but the first", 254, () -> x.mistaken(8));
        Due.is("round", 127, () -> x.mistaken(9));
        Due.is("all but the second", 253, () -> x.mistaken(39));
        Due.is("all but the first", 254, () -> x.mistaken(40));
        x.put(7, -1);
        Due.is("all", 255, () -> x.mistaken(40));
        x.heel(7, 0);
        Due.is("nobody is NAMED", 0, () -> x.mistaken(40));
        // In the first NIGHT of eight each is heard as he treads, in the last one all is heard of all, else nothing.
        NightMarch y = Due.of("beats 4;man 1 1;man 2 1;man 15 1;row 0;row 1;row 2;mud 0 1 1 1 1 1 1 2;slack 0;"
            + "hears mud=2 or mud<sum;");
        Due.is("in the first each is himself", 0, () -> y.mistaken(1));
        Due.is("in the second nobody is NAMED", 0, () -> y.mistaken(2));
        Due.is("in the eighth 2 is the second one", 5, () -> y.mistaken(8));
        Due.is("in the 39th nobody is NAMED", 0, () -> y.mistaken(39));
        Due.is("in the 40th 2 is the last one", 3, () -> y.mistaken(40));
        Due.is("no ROWS", 0, () -> new NightMarch().mistaken(40));
        Due.is("no ROWS", Due.ILLEGAL, () -> new NightMarch().mistaken(41));
    }

    @Edge(promise = 17, says = "IllegalArgumentException: not 1 to 40.")
    static void mistakenBeyond40() {
        for (NightMarch x : new NightMarch[] {new NightMarch(), Due.of(THREE), Due.of(LAST)}) {
            Due.within("k", 1, 40, Due.ILLEGAL, x::mistaken);
        }
    }

    // ---- Promise 18

    @Edge(promise = 18, says = "UNSUNG: MEN who aren't NAMED in any of so many NIGHTS (1 to 40), as bits.")
    static void unsungIn1To40() {
        NightMarch x = Due.of(ONCE);
        Due.within("unsung", 1, 40, Due.ILLEGAL, x::unsung);
        Due.is("in 40", 32, () -> x.unsung(40) & 32);
        x.nights(1);
        Due.is("in 39", 32, () -> x.unsung(39) & 32);
        Due.is("in the 40th he is NAMED", 0, () -> x.unsung(40) & 32);
        Due.is("no MEN", 0, () -> new NightMarch().unsung(1));
        NightMarch all = Due.of("man 1 1;".repeat(8));
        Due.is("no ROWS: all", 255, () -> all.unsung(40));
        NightMarch none = Due.of("beats 4;man 1 1;man 2 1;row 0;row 1;mud 0;slack 0;");
        Due.is("none", 0, () -> none.unsung(1));
    }

    @Edge(promise = 18, says = "IllegalArgumentException: not 1 to 40.")
    static void unsungBeyond40() {
        for (NightMarch x : new NightMarch[] {new NightMarch(), Due.of(THREE), Due.of(LAST)}) {
            Due.within("nights", 1, 40, Due.ILLEGAL, x::unsung);
        }
    }

    // ---- Promise 19

    @Edge(promise = 19, says = "FAR: at how many BEATS two TREADS differ.")
    static void farFrom0To12() {
        NightMarch x = Due.of("beats 12;man 0 1;man 4095 1;man 4095 9;man 2048 1;");
        Due.is("himself", 0, () -> x.far(1, 1));
        Due.is("one alike", 0, () -> x.far(1, 2));
        Due.is("all", 12, () -> x.far(0, 1));
        Due.is("the last BEAT", 1, () -> x.far(3, 0));
        Due.is("all but it", 11, () -> x.far(1, 3));
        Due.within("man", 0, 3, Due.NO_SUCH, man -> x.far(man, 0));
        Due.within("other", 0, 3, Due.NO_SUCH, man -> x.far(0, man));
        Due.is("both are none", Due.NO_SUCH, () -> x.far(4, 4));
    }

    // ---- Promise 20

    @Edge(promise = 20, says = "(the lesser first; of like ones the first); none with fewer than two.")
    static void nearestOfNoneOneTwo() {
        Due.is("none", -1, () -> new NightMarch().nearest());
        NightMarch one = Due.of("man 1 1;");
        Due.is("one", -1, one::nearest);
        NightMarch two = Due.of("beats 12;man 0 1;man 4095 1;");
        Due.is("two, however far", 1, two::nearest);
        NightMarch eight = Due.of("beats 12;man 0 1;man 7 1;man 56 1;man 63 1;man 448 1;man 455 1;man 504 1;man 510 1;");
        Due.is("the last couple", 67, eight::nearest);
        // 0 and 5 are FAR by 1, and so are 2 and 3.
        NightMarch six = Due.of("beats 12;man 0 1;man 15 1;man 240 1;man 241 1;man 3840 1;man 1 1;");
        Due.is("of like ones the first", 5, six::nearest);
        six.heel(5, 11);
        Due.is("the other one", 23, six::nearest);
        NightMarch like = Due.of("man 1 1;".repeat(8));
        Due.is("of all couples the first", 1, like::nearest);
    }

    @Edge(promise = 20, says = "10 by the lesser and the other one; NONE: none.")
    static void nearestIsACoupleOrNone() {
        int[] treads = {3, 12, 48, 192, 15, 33, 60, 32};
        int[] due = {-1, -1, 1, 1, 1, 4, 4, 4, 27};
        StringBuilder text = new StringBuilder();
        for (int men = 0; men <= 8; men++) {
            NightMarch x = Due.of(text.toString());
            Due.same("of " + men, due[men], x.nearest());
            if (men < 8) {
                text.append("man ").append(treads[men]).append(" 1;");
            }
        }
    }

    // ---- Promise 21

    @Edge(promise = 21, says = "TOLD APART: the greatest set of MEN any two of whom are FAR by so many (1 to 12) or more")
    static void apartBy1To12() {
        NightMarch x = Due.of("beats 12;man 0 1;man 4095 1;man 1 1;");
        Due.within("apart", 1, 12, Due.ILLEGAL, x::apart);
        Due.is("by 1", 7, () -> x.apart(1));
        Due.is("by 2", 3, () -> x.apart(2));
        Due.is("by 12", 3, () -> x.apart(12));
        x.heel(1, 11);
        Due.is("FAR by 11 is not 12", 1, () -> x.apart(12));
        Due.is("but 11", 3, () -> x.apart(11));
        Due.is("without MEN", 0, () -> new NightMarch().apart(1));
        Due.is("without MEN", Due.ILLEGAL, () -> new NightMarch().apart(13));
        NightMarch all = Due.of("man 0 1;man 1 1;man 2 1;man 3 1;man 4 1;man 5 1;man 6 1;man 7 1;");
        Due.is("all eight", 255, () -> all.apart(1));
        NightMarch like = Due.of("man 7 1;".repeat(8));
        Due.is("one of eight like ones", 1, () -> like.apart(1));
    }

    @Edge(promise = 21, says = "IllegalArgumentException: not 1 to 12.")
    static void apartBeyond12() {
        for (NightMarch x : new NightMarch[] {new NightMarch(), Due.of(THREE), Due.of(LAST)}) {
            Due.within("beats", 1, 12, Due.ILLEGAL, x::apart);
        }
        NightMarch four = Due.of(THREE);
        Due.is("by more BEATS than there are: one alone", 1, () -> four.apart(5));
    }

    @Edge(promise = 21, says = "of like ones the least as bits.")
    static void apartOfLikeOnesTheLeast() {
        NightMarch x = Due.of("beats 4;man 0 1;man 1 1;man 15 1;man 14 1;");
        Due.is("0 and 2, not 1 and 3", 5, () -> x.apart(4));
        x.heel(0, 3);
        Due.is("1 and 3 are left", 10, () -> x.apart(4));
    }

    // ---- Promise 22

    @Edge(promise = 22, says = "how far (what 0), the TREAD (1); NONE: none. NoSuchElementException: another what.")
    static void newTreadWithoutMen() {
        NightMarch x = new NightMarch();
        Due.is("how far", -1, () -> x.tread(0));
        Due.is("the TREAD", -1, () -> x.tread(1));
        Due.is("another what", Due.NO_SUCH, () -> x.tread(2));
        Due.is("another what", Due.NO_SUCH, () -> x.tread(-1));
        NightMarch one = Due.of("beats 12;man 0 1;");
        Due.within("what", 0, 1, Due.NO_SUCH, one::tread);
        Due.is("as far as can be", 12, () -> one.tread(0));
        Due.is("all BEATS", 4095, () -> one.tread(1));
        one.heel(0, 0);
        Due.is("all but the first", 4094, () -> one.tread(1));
    }

    @Edge(promise = 22, says = "that (of all sets of BEATS) of which the least FAR from any MAN's is most: how far; the least such one")
    static void newTreadIsTheLeastSuchOne() {
        NightMarch even = Due.of("beats 4;man 0 1;man 3 1;man 5 1;man 6 1;man 9 1;man 10 1;man 12 1;man 15 1;");
        Due.is("next to any", 1, () -> even.tread(0));
        Due.is("the first that none has", 1, () -> even.tread(1));
        NightMarch two = Due.of("beats 4;man 15 1;man 15 1;");
        Due.is("none of the BEATS", 0, () -> two.tread(1));
        Due.is("FAR by all", 4, () -> two.tread(0));
    }

    @Edge(promise = 22, says = "the least such one; none without MEN.")
    static void newTreadOfNoneAndOne() {
        NightMarch x = Due.of("beats 4;");
        Due.is("no MEN: how far", -1, () -> x.tread(0));
        Due.is("no MEN: which", -1, () -> x.tread(1));
        NightMarch y = Due.of("beats 4;man 0 1;");
        Due.is("one: how far", 4, () -> y.tread(0));
        Due.is("one: which", 15, () -> y.tread(1));
        NightMarch z = Due.of("beats 4;man 0 1;man 15 1;");
        Due.is("two: how far", 2, () -> z.tread(0));
        Due.is("two: the least of six", 3, () -> z.tread(1));
    }

    // ---- Promise 23

    @Edge(promise = 23, says = "PASSES; NONE: none, both are one.")
    static void passesForHimself() {
        NightMarch x = Due.of("beats 4;man 1 1;man 2 1;row 0;row 1;mud 0;slack 0;");
        Due.is("both are one", -1, () -> x.passes(0, 0));
        Due.is("though he is NAMED", 0, () -> x.row(0, 2));
        Due.is("none", -1, () -> x.passes(0, 1));
        Due.within("man", 0, 1, Due.NO_SUCH, man -> x.passes(man, 0));
        Due.within("other", 0, 1, Due.NO_SUCH, man -> x.passes(0, man));
        Due.is("both are none", Due.NO_SUCH, () -> x.passes(2, 2));
        NightMarch camp = Due.of("man 1 1;man 1 1;");
        Due.is("no ROWS", -1, () -> camp.passes(1, 0));
    }

    @Edge(promise = 23, says = "were a MAN PUT in it now, or staying there (ROWS with 4 others don't count)")
    static void passesBeside3Or4Others() {
        NightMarch x = Due.of(FOUR);
        Due.is("staying there with 3 others", 0, () -> x.passes(3, 0));
        Due.is("PUT to 4 others", -1, () -> x.passes(4, 0));
        x.put(3, -1);
        Due.is("PUT to 3 others", 0, () -> x.passes(4, 0));
        Due.is("he stays in camp", -1, () -> x.man(4, 3));
    }

    @Edge(promise = 23, says = "the other one is NAMED in the next NIGHT; none.")
    static void passesInTheNextNight() {
        // In MUD 0 both together are heard as 2 treads, in MUD 9 nobody.
        NightMarch x = Due.of("beats 4;man 1 1;man 2 1;man 3 1;row 0;row 1;mud 0 9;slack 0;");
        Due.is("beside 1", 1, () -> x.passes(0, 2));
        Due.is("beside 0", 0, () -> x.passes(1, 2));
        x.nights(1);
        Due.is("none in MUD 9", -1, () -> x.passes(0, 2));
        x.nights(1);
        Due.is("beside 1 again", 1, () -> x.passes(0, 2));
        x.nights(2);
        x.put(0, -1);
        Due.is("from camp, too", 1, () -> x.passes(0, 2));
    }

    @Edge(promise = 23, says = "PASSES for another one: the ROW (of like ones the first)")
    static void passesInTheFirstRow() {
        NightMarch x = Due.of(LAST);
        Due.is("of all the first", 0, () -> x.passes(0, 7));
        Due.is("of all the first, for the last MAN, too", 0, () -> x.passes(6, 7));
        NightMarch y = Due.of("beats 4;man 1 1;man 2 1;man 3 1;man 7 1;row 0;row 1;row 2;mud 0;slack 0;");
        Due.is("beside 0 or 2", 0, () -> y.passes(1, 2));
        Due.is("beside 1 or 2", 1, () -> y.passes(0, 2));
        NightMarch z = Due.of("beats 4;man 1 1;man 4 1;man 8 1;man 9 1;row 1;row 2;mud 0 9;slack 0;");
        Due.is("in the last ROW alone", 1, () -> z.passes(0, 3));
    }

    // ---- Promise 24

    @Edge(promise = 24, says = "HIDDEN: ROWS (bits) for each of which, were he PUT in it now, or staying there (likewise)")
    static void hiddenBeside3Or4Others() {
        NightMarch x = Due.of(FOUR);
        Due.is("NAMED himself", 0, () -> x.hidden(0));
        Due.is("staying there with 3 others", 1, () -> x.hidden(3));
        Due.is("PUT to 4 others", 0, () -> x.hidden(4));
        x.put(3, -1);
        Due.is("PUT to 3 others", 1, () -> x.hidden(4));
        Due.within("man", 0, 4, Due.NO_SUCH, x::hidden);
        NightMarch camp = Due.of("man 1 1;");
        Due.is("no ROWS", 0, () -> camp.hidden(0));
    }

    @Edge(promise = 24, says = "somebody else is NAMED, or nobody, in the next NIGHT.")
    static void hiddenWhereNobodyIsNamed() {
        NightMarch x = Due.of(LAST);
        Due.is("somebody else for all eight", 255, () -> x.hidden(0));
        Due.is("he himself for all", 0, () -> x.hidden(7));
        x.heel(7, 3);
        Due.is("nobody for all", 255, () -> x.hidden(7));
    }

    // ---- Promise 25

    @Edge(promise = 25, says = "TO SOCK: the most LOUD (1 to 9)")
    static void toSock1To9() {
        for (int mud = 0; mud <= 9; mud++) {
            NightMarch x = Due.of("beats 4;man 1 5;row 0;slack 0;mud " + mud + ";");
            Due.same("in MUD " + mud, mud == 0 ? -1 : mud, x.toSock(0));
            Due.same("LOUD stays", 5, x.man(0, 1));
        }
        NightMarch next = Due.of("beats 4;man 1 9;row 0;mud 3 7;slack 0;");
        Due.is("in the next NIGHT", 3, () -> next.toSock(0));
        next.nights(1);
        Due.is("in the one behind it", 7, () -> next.toSock(0));
        NightMarch beside = Due.of("beats 4;man 1 9;man 3 9;man 4 9;row 0;row 1;row 2;mud 3;slack 0;"
            + "hears mud<sum and others<9;");
        Due.is("beside 1 he isn't heard", 9, () -> beside.toSock(0));
        beside.nights(1);
        Due.is("beside 2 he is", 3, () -> beside.toSock(0));
        NightMarch other = Due.of("beats 4;man 1 9;man 2 1;row 0;row 1;mud 4;slack 0;hears mud<others;");
        Due.is("for no ROW, also not another one", 4, () -> other.toSock(0));
    }

    @Edge(promise = 25, says = "so that he is NAMED for no ROW in the next NIGHT; none.")
    static void toSockThatIsInVain() {
        NightMarch x = Due.of("beats 4;man 1 1;man 1 9;row 0;row 1;mud 3;slack 0;");
        Due.is("for the other one's ROW he is NAMED all the same", -1, () -> x.toSock(0));
        Due.is("the other one never is", 9, () -> x.toSock(1));
        x.loud(1, 3);
        Due.is("he alone can be heard", 3, () -> x.toSock(0));
        NightMarch y = Due.of("beats 4;man 1 1;row 0;slack 1;mud 3;");
        Due.is("who is NAMED also if nothing is heard", -1, () -> y.toSock(0));
    }

    @Edge(promise = 25, says = "TO SOCK; NONE: none, in camp.")
    static void toSockInCamp() {
        NightMarch x = Due.of("beats 4;man 1 5;man 2 5;row 0;slack 0;mud 3;");
        Due.is("in camp", -1, () -> x.toSock(1));
        Due.is("in a ROW", 3, () -> x.toSock(0));
        x.put(0, -1);
        Due.is("in camp now", -1, () -> x.toSock(0));
        Due.within("man", 0, 1, Due.NO_SUCH, x::toSock);
        NightMarch always = Due.of("beats 4;man 15 1;row 0;slack 0;hears 1;");
        Due.is("however still he is", -1, () -> always.toSock(0));
        NightMarch never = Due.of("beats 4;man 15 1;row 0;slack 0;hears 0;");
        Due.is("however loud", 9, () -> never.toSock(0));
    }

    // ---- Promise 26

    @Edge(promise = 26, says = "(With more than 6 ROWS none is sought.)")
    static void reviewOf6And7Rows() {
        String men = "man 1 9;man 2 9;man 4 9;man 8 9;man 16 9;man 32 9;man 64 9;man 128 9;"
            + "row 0;row 1;row 2;row 3;row 4;row 5;";
        NightMarch six = Due.of(men);
        Due.is("six", 6, () -> six.review(-1));
        for (int place = 0; place < 6; place++) {
            Due.same("place", place, six.review(place));
        }
        NightMarch seven = Due.of(men + "row 6;");
        for (int place = -1; place < 7; place++) {
            Due.same("more than 6", -2, seven.review(place));
        }
        NightMarch eight = Due.of(men + "row 6;row 7;");
        Due.is("more than 6", -2, () -> eight.review(-1));
        Due.is("more than 6", -2, () -> eight.review(7));
    }

    @Edge(promise = 26, says = "how many (i NONE), which ROW comes to the i-th place; -2: more than 6.")
    static void reviewFrom0To8Rows() {
        StringBuilder text = new StringBuilder("man 1 9;man 2 9;man 4 9;man 8 9;man 16 9;man 32 9;man 64 9;man 128 9;");
        for (int rows = 0; rows <= 8; rows++) {
            NightMarch x = Due.of(text.toString());
            Due.same("how many of " + rows, rows > 6 ? -2 : rows, x.review(-1));
            for (int place = 0; place < rows; place++) {
                Due.same("place " + place + " of " + rows, rows > 6 ? -2 : place, x.review(place));
            }
            text.append("row ").append(rows).append(';');
        }
    }

    @Edge(promise = 26, says = "NoSuchElementException: also no such place.")
    static void reviewOfAPlaceThatIsNot() {
        NightMarch x = Due.of(THREE);
        Due.within("place", -1, 2, Due.NO_SUCH, x::review);
        NightMarch none = new NightMarch();
        Due.is("no ROWS: how many", 0, () -> none.review(-1));
        Due.is("no ROWS: no place", Due.NO_SUCH, () -> none.review(0));
        NightMarch one = Due.of("man 1 9;row 0;");
        Due.is("one ROW: how many", 1, () -> one.review(-1));
        Due.is("one ROW", 0, () -> one.review(0));
        Due.is("no second place", Due.NO_SUCH, () -> one.review(1));
    }

    @Edge(promise = 26, says = "in which most ROWS are NAMED for a MAN who is in them (as HEARD in that order, MUD as it is)")
    static void reviewAsHeardInThatOrder() {
        // The loud one drowns who is beside him, ahead or behind: they have to be kept apart by the third one.
        String men = "beats 4;man 1 2;man 3 1;man 8 1;slack 0;hears others<sum;";
        int[][] orders = {{0, 1, 2, 0, 2, 1}, {1, 0, 2, 0, 2, 1}, {0, 2, 1, 0, 1, 2}, {2, 0, 1, 1, 0, 2}, {2, 1, 0, 1, 0, 2}};
        for (int[] order : orders) {
            NightMarch x = Due.of(men + "row " + order[0] + ";row " + order[1] + ";row " + order[2] + ";");
            Due.same("all three", 3, x.review(-1));
            for (int place = 0; place < 3; place++) {
                Due.same("place " + place, order[3 + place], x.review(place));
            }
        }
    }

    @Edge(promise = 26, says = "A REVIEW: of all orders of ROWS that in which most ROWS are NAMED for a MAN who is in them")
    static void reviewOfAllOrdersOf6() {
        String[] armies = {
            "beats 4;man 1 3;man 3 2;man 6 4;man 12 1;man 9 5;man 7 2;man 14 3;man 5 1;slack 0;mud 1;hears mud+others/2<sum;",
            "beats 5;man 17 1;man 3 2;man 6 1;man 12 2;man 24 1;man 21 2;man 14 1;man 5 1;slack 0;hears sum and others-sum<2;",
        };
        for (String army : armies) {
            int most = -1;
            int[] best = null;
            for (int number = 0; number < 720; number++) {
                int[] order = orderOf6(number);
                NightMarch x = Due.of(army + rowsOf6(order));
                if (x.often(1, 1) > most) {
                    most = x.often(1, 1);
                    best = order;
                }
            }
            NightMarch y = Due.of(army + rowsOf6(orderOf6(0)));
            Due.same("how many", most, y.review(-1));
            for (int place = 0; place < 6; place++) {
                Due.same("place " + place, best[place], y.review(place));
            }
        }
    }

    /** The orders one behind the other, place by place. */
    private static int[] orderOf6(int number) {
        List<Integer> left = new ArrayList<>(List.of(0, 1, 2, 3, 4, 5));
        int[] order = new int[6];
        int rest = number;
        int each = 120;
        for (int place = 0; place < 6; place++) {
            order[place] = left.remove(rest / each);
            rest %= each;
            each /= Math.max(1, 5 - place);
        }
        return order;
    }

    private static String rowsOf6(int[] order) {
        StringBuilder text = new StringBuilder();
        for (int row : order) {
            text.append("row ").append(row).append(row < 2 ? " " + (6 + row) : "").append(';');
        }
        return text.toString();
    }

    @Edge(promise = 26, says = "how many; the first such order (place by place: which ROW as it is now).")
    static void reviewIsTheFirstSuchOrder() {
        NightMarch none = Due.of("beats 4;man 0 1;man 0 1;man 0 1;row 2;row 1;row 0;slack 0;hears 1;");
        Due.is("none is right", 0, () -> none.review(-1));
        for (int place = 0; place < 3; place++) {
            Due.same("as it is now", place, none.review(place));
        }
        NightMarch mud = Due.of("beats 4;man 1 5;row 0;mud 4 5;slack 0;");
        Due.is("in MUD as it is", 1, () -> mud.review(-1));
        mud.nights(1);
        Due.is("in MUD as it is then", 0, () -> mud.review(-1));
        // Only who has nobody beside him, ahead or behind, on his BEAT is heard: 0 and 1 have to be kept apart.
        NightMarch x = Due.of("beats 4;man 1 1;man 1 1;man 2 1;row 0;row 1;row 2;slack 0;hears sum and not others;");
        Due.is("two are right: who is like 0 never is", 2, () -> x.review(-1));
        int[] order = {0, 2, 1};
        for (int place = 0; place < 3; place++) {
            Due.same("place " + place, order[place], x.review(place));
        }
        x.nights(1);
        // ROWS are 1, 2, 0 now: as they stand the two are kept apart.
        for (int place = 0; place < 3; place++) {
            Due.same("place " + place, place, x.review(place));
        }
    }
}
