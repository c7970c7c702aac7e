import java.math.BigInteger;

/** Boundary cases of what is seen, of mud, of the game and of nights by a seed: promises 27 to 33. */
final class GuessEdges {
    /** Three alone, by MUD: all NAMED in the first NIGHT of three, 1 and 2 in the second, 2 in the third. */
    private static final String THREE = "beats 4;man 1 3;man 2 5;man 4 7;row 0;row 1;row 2;mud 2 4 6;slack 0;";
    private static final String EIGHT_ROWS = "row 0;row 1;row 2;row 3;row 4;row 5;row 6;row 7;";
    /** Eight without any BEAT, who would be heard with one. */
    private static final String STILL = "beats 12;" + "man 0 9;".repeat(8) + EIGHT_ROWS + "mud 0;";
    /** 0 is too still to be heard, 1 is always heard. */
    private static final String GAME = "beats 4;man 1 1;man 2 9;man 4 9;row 0;row 1;mud 2;slack 0;";

    private GuessEdges() {
    }

    // ---- Promise 27

    @Edge(promise = 27, says = "SEEN: how much is. NONE (STATUS 2): there are 8, not 1 to 12.")
    static void seenAre8AtMost() {
        NightMarch x = Due.of(THREE);
        for (int many = 1; many <= 8; many++) {
            Due.same("SEEN", many, x.see(2, 12, 3, true));
        }
        int[] was = Due.whole(x);
        Due.is("there are 8", -1, () -> x.see(0, 1, 0, true));
        Due.is("there are 8", -1, () -> x.see(2, 12, 3, true));
        Due.is("STATUS 2", 2, () -> x.count(14));
        Due.is("no other STATUS", 0, () -> x.count(12) + x.count(13));
        Due.stays("what is refused", was, x);
    }

    @Edge(promise = {27, 5}, says = "SEEN (at most 8)")
    static void seenFrom0To8() {
        NightMarch x = Due.of(THREE);
        for (int many = 0; many <= 9; many++) {
            Due.same("SEEN", Math.min(many, 8), x.count(10));
            x.see(0, 1, 0, many % 2 == 0);
        }
        Due.is("refused", 2, () -> x.count(14));
    }

    @Edge(promise = 27, says = "in the k-th NIGHT from now (1 to 12).")
    static void seenInNight1To12() {
        NightMarch x = Due.of(THREE);
        int[] was = Due.whole(x);
        int refusals = 0;
        for (int bad : new int[] {0, 13, -1, Integer.MIN_VALUE, Integer.MAX_VALUE}) {
            Due.is("night " + bad, -1, () -> x.see(0, bad, 0, true));
            Due.same("STATUS 2", ++refusals, x.count(14));
            Due.stays("what is refused", was, x);
        }
        Due.is("the first", 1, () -> x.see(0, 1, 0, true));
        Due.is("it is so", 1, () -> x.limped(2));
        // In the twelfth ROW 2 is in front, and MUD is 6.
        Due.is("the twelfth", 2, () -> x.see(0, 12, 2, true));
        Due.is("it is so", 1, () -> x.limped(2));
        Due.is("but not nothing", 3, () -> x.see(0, 12, 2, false));
        Due.is("it isn't so", 0, () -> x.limped(2));
    }

    @Edge(promise = 27, says = "NoSuchElementException (ahead): no such ROW, BEAT.")
    static void seenOfARowOrBeatThatIsNot() {
        NightMarch x = Due.of(THREE);
        Due.within("row", 0, 2, Due.NO_SUCH, row -> x.see(row, 1, 0, true));
        Due.within("beat", 0, 3, Due.NO_SUCH, beat -> x.see(0, 1, beat, true));
        Due.is("row and night", Due.NO_SUCH, () -> x.see(3, 0, 0, true));
        Due.is("beat and night", Due.NO_SUCH, () -> x.see(0, 13, 4, true));
        for (int i = 0; i < 4; i++) {
            x.see(0, 1, 0, true);
        }
        Due.is("there are 8", 8, () -> x.count(10));
        Due.is("row, and there are 8", Due.NO_SUCH, () -> x.see(-1, 1, 0, true));
        Due.is("beat, and there are 8", Due.NO_SUCH, () -> x.see(0, 1, -1, true));
        Due.is("no STATUS", 0, () -> x.count(14));
        Due.is("no ROW at all", Due.NO_SUCH, () -> new NightMarch().see(0, 1, 0, true));
        NightMarch twelve = Due.of(STILL);
        Due.is("the last of 12 BEATS, of 8 ROWS", 1, () -> twelve.see(7, 12, 11, false));
    }

    // ---- Promise 28

    @Edge(promise = 28, says = "All that is SEEN is forgotten.")
    static void forgetAllOrNothing() {
        NightMarch x = Due.of(THREE);
        int[] was = Due.whole(x);
        x.forget();
        Due.stays("nothing is SEEN", was, x);
        for (int i = 0; i < 8; i++) {
            x.see(0, 1, 3, true);
        }
        x.forget();
        Due.stays("all 8", was, x);
        Due.is("there is room again", 1, () -> x.see(0, 1, 0, true));
        x.nights(1);
        x.forget();
        Due.is("it is no ACT", 1, () -> x.count(9));
    }

    // ---- Promise 29

    @Edge(promise = 29, says = "how many (what 0), the first (1; NONE: none), whether without (2). NoSuchElementException: another what.")
    static void limpedOfNoneOneAll() {
        NightMarch x = Due.of(STILL);
        Due.within("what", 0, 2, Due.NO_SUCH, x::limped);
        Due.is("nothing is SEEN: all", 96, () -> x.limped(0));
        Due.is("the first of all", 0, () -> x.limped(1));
        Due.is("without", 1, () -> x.limped(2));
        x.see(7, 1, 11, true);
        Due.is("the last of all alone", 1, () -> x.limped(0));
        Due.is("7 at 11", 711, () -> x.limped(1));
        Due.is("not without", 0, () -> x.limped(2));
        x.see(0, 1, 0, true);
        Due.is("none", 0, () -> x.limped(0));
        Due.is("none", -1, () -> x.limped(1));
        x.forget();
        x.see(0, 1, 0, true);
        Due.is("the first of all alone", 1, () -> x.limped(0));
        Due.is("0 at 0", 0, () -> x.limped(1));
        NightMarch none = new NightMarch();
        Due.is("no MEN", 0, () -> none.limped(0));
        Due.is("no MEN", -1, () -> none.limped(1));
        Due.is("no MEN: it is so without", 1, () -> none.limped(2));
        Due.is("no MEN, another what", Due.NO_SUCH, () -> none.limped(3));
    }

    @Edge(promise = 29, says = "how many; the first (100 by the MAN, and the BEAT); whether it is so without (1).")
    static void limpedTheFirst() {
        NightMarch x = Due.of(STILL);
        for (int man = 0; man < 8; man++) {
            for (int beat = 0; beat < 12; beat++) {
                x.forget();
                Due.same("without", 1, x.limped(2));
                x.see(man, 1, beat, true);
                Due.same("he alone", 1, x.limped(0));
                Due.same("the first", 100 * man + beat, x.limped(1));
                Due.same("not without", 0, x.limped(2));
            }
        }
        NightMarch both = Due.of("beats 4;man 0 1;man 0 1;man 0 9;man 0 9;row 0 2 1 3;mud 5;");
        both.see(0, 1, 3, true);
        Due.is("2 or 3", 2, () -> both.limped(0));
        Due.is("of both the first", 203, () -> both.limped(1));
    }

    @Edge(promise = 29, says = "by one of which, were the HEEL set otherwise now, all SEEN would be so")
    static void limpedByAllThatIsSeen() {
        NightMarch x = Due.of(STILL);
        for (int beat = 0; beat < 7; beat++) {
            x.see(0, 1, beat, false);
        }
        Due.is("7 of 96 are not so", 89, () -> x.limped(0));
        x.see(1, 8, 11, true); // ROW 0 is the second one in the eighth NIGHT
        Due.is("the eighth, too", 1, () -> x.limped(0));
        Due.is("0 at 11", 11, () -> x.limped(1));
        Due.is("the TREAD stays", 0, () -> x.man(0, 0));
    }

    // ---- Promise 30

    @Edge(promise = 30, says = "THE NEXT ROW (what 0; NONE), how many (1; 0: none). NoSuchElementException: another what.")
    static void nextOfNone() {
        NightMarch x = Due.of(STILL);
        Due.within("what", 0, 1, Due.NO_SUCH, x::next);
        x.see(0, 1, 0, true);
        x.see(1, 1, 0, true);
        Due.is("none limped: no ROW", -1, () -> x.next(0));
        Due.is("none limped: how many", 0, () -> x.next(1));
        Due.is("another what", Due.NO_SUCH, () -> x.next(2));
        NightMarch camp = Due.of("man 1 1;");
        Due.is("no ROWS", -1, () -> camp.next(0));
        Due.is("no ROWS", 0, () -> camp.next(1));
        Due.is("no MEN", -1, () -> new NightMarch().next(0));
        Due.is("no MEN", 0, () -> new NightMarch().next(1));
    }

    @Edge(promise = 30, says = "of which HEARD by these is most unlike (of like ones the first): how many; none without any.")
    static void nextOfLikeOnesTheFirst() {
        NightMarch x = Due.of(STILL);
        Due.is("of all alike the first", 0, () -> x.next(0));
        Due.is("each of 12 BEATS, and none", 13, () -> x.next(1));
        x.see(7, 1, 11, true);
        Due.is("one limped: the first", 0, () -> x.next(0));
        Due.is("one is HEARD", 1, () -> x.next(1));
        x.forget();
        x.see(0, 1, 0, false);
        Due.is("the first has one fewer now", 1, () -> x.next(0));
        Due.is("13 of the second", 13, () -> x.next(1));
        NightMarch y = Due.of("beats 4;man 0 1;man 0 9;row 0;row 1;mud 5;");
        Due.is("the last ROW alone is HEARD", 1, () -> y.next(0));
        Due.is("4 BEATS, and none", 5, () -> y.next(1));
    }

    // ---- Promise 31

    @Edge(promise = 31, says = "IllegalArgumentException (behind NoSuchElementException): nights, tenths.")
    static void byMudIn1To5Nights() {
        NightMarch x = Due.of(THREE);
        Due.within("nights", 1, 5, Due.ILLEGAL, nights -> x.byMud(0, nights, 5));
        Due.within("tenths", 0, 10, Due.ILLEGAL, tenths -> x.byMud(0, 1, tenths));
        Due.within("man", 0, 2, Due.NO_SUCH, man -> x.byMud(man, 1, 5));
        Due.is("man and nights", Due.NO_SUCH, () -> x.byMud(3, 0, 5));
        Due.is("man and tenths", Due.NO_SUCH, () -> x.byMud(-1, 1, 11));
        Due.is("nights and tenths", Due.ILLEGAL, () -> x.byMud(0, 6, -1));
    }

    @Edge(promise = 31, says = "in each of so many NIGHTS (1 to 5) MUD is 9 with so many tenths (0 to 10), else 0")
    static void byMudOfNoneAndOfAll() {
        NightMarch x = Due.of("beats 4;man 1 9;man 2 1;row 0;row 1;mud 5;slack 0;");
        Due.is("never 9", 10, () -> x.byMud(0, 1, 0));
        Due.is("9 by one tenth: LOUD 9 is not more than it", 9, () -> x.byMud(0, 1, 1));
        Due.is("0 by one tenth", 1, () -> x.byMud(0, 1, 9));
        Due.is("always 9", 0, () -> x.byMud(0, 1, 10));
        Due.is("LOUD 1 is more than 0", 10, () -> x.byMud(1, 1, 0));
        Due.is("never 9 in 5", 500000, () -> x.byMud(1, 5, 0));
        Due.is("0 by one tenth in 5", 50000, () -> x.byMud(1, 5, 9));
        x.put(1, 0);
        x.heel(1, 0);
        Due.is("10 is more than 9: just that BEAT", 5, () -> x.byMud(0, 1, 5));
        Due.is("both in none: the other one's", 5, () -> x.byMud(1, 1, 5));
    }

    @Edge(promise = 31, says = "how often a MAN is NAMED in them, on average: as so many of 10 to the power of these NIGHTS.")
    static void byMudForEachOf8Rows() {
        NightMarch x = Due.of("beats 4;" + "man 15 1;".repeat(8) + EIGHT_ROWS + "slack 0;hears 1;");
        Due.is("8 ROWS, 5 NIGHTS", 4000000, () -> x.byMud(0, 5, 7));
        Due.is("8 ROWS, one NIGHT", 80, () -> x.byMud(0, 1, 7));
        Due.is("never", 0, () -> x.byMud(7, 5, 7));
        NightMarch camp = Due.of("man 1 1;");
        Due.is("no ROWS", 0, () -> camp.byMud(0, 5, 5));
    }

    // ---- Promise 32

    @Edge(promise = 32, says = "NoSuchElementException: also another what. IllegalArgumentException (behind that): both are one, one is in camp.")
    static void gameOfOneOrInCamp() {
        NightMarch x = Due.of(GAME);
        Due.is("both are one", Due.ILLEGAL, () -> x.game(0, 0, 0));
        Due.is("the first is in camp", Due.ILLEGAL, () -> x.game(2, 0, 1));
        Due.is("the other one is in camp", Due.ILLEGAL, () -> x.game(0, 2, 0));
        Due.is("one in camp with himself", Due.ILLEGAL, () -> x.game(2, 2, 0));
        Due.is("both are one, another what", Due.NO_SUCH, () -> x.game(0, 0, 2));
        Due.is("in camp, another what", Due.NO_SUCH, () -> x.game(0, 2, -1));
        Due.within("what", 0, 1, Due.NO_SUCH, what -> x.game(0, 1, what));
        for (int bad : new int[] {-1, 3, Integer.MIN_VALUE, Integer.MAX_VALUE}) {
            Due.is("no such MAN", Due.NO_SUCH, () -> x.game(bad, 2, 0));
            Due.is("no such other MAN", Due.NO_SUCH, () -> x.game(2, bad, 0));
            Due.is("both are none", Due.NO_SUCH, () -> x.game(bad, bad, 0));
        }
        x.put(2, 1);
        Due.isTrue("in a ROW he plays", x.game(0, 2, 0) >= 0);
        x.put(0, 1);
        Due.isTrue("in one ROW they play", x.game(0, 2, 0) >= 0);
    }

    @Edge(promise = 32, says = "A couple RESTS, if neither gains more by the other choice")
    static void gameOfLikeGainsRests() {
        String two = "beats 4;man 1 1;man 2 9;row 0;row 1;slack 0;mud 9 9 9 9 9 ";
        // By stamping 0 is NAMED in so many of 6 NIGHTS, and loses 1; the other one loses 1 by it for nothing.
        NightMarch none = Due.of(two + "9;");
        Due.is("none: both stay", 1, () -> none.game(0, 1, 0));
        Due.is("none: neither", 0, () -> none.game(0, 1, 1));
        NightMarch one = Due.of(two + "5;");
        Due.is("one: alike", 2, () -> one.game(0, 1, 0));
        Due.is("one: the first is neither", 0, () -> one.game(0, 1, 1));
        NightMarch more = Due.of(two.replace("9 9 ", "9 5 ") + "5;");
        Due.is("more: he stamps", 1, () -> more.game(0, 1, 0));
        Due.is("more: the first one stamps", 10, () -> more.game(0, 1, 1));
        Due.is("more: the other one stamps", 1, () -> more.game(1, 0, 1));
    }

    @Edge(promise = 32, says = "how many; the first (10 by the first one's and the other one's).")
    static void gameTheFirst() {
        String two = "beats 4;man 1 1;man 2 1;row 0;row 1;slack 0;";
        NightMarch stay = Due.of(two + "mud 9;");
        Due.is("neither: one", 1, () -> stay.game(0, 1, 0));
        Due.is("neither", 0, () -> stay.game(0, 1, 1));
        NightMarch stamp = Due.of(two + "mud 8;");
        Due.is("both: one", 1, () -> stamp.game(0, 1, 0));
        Due.is("both", 11, () -> stamp.game(0, 1, 1));
        NightMarch first = Due.of(two + "mud 8;");
        first.loud(1, 9);
        Due.is("the first one", 10, () -> first.game(0, 1, 1));
        Due.is("the other one", 1, () -> first.game(1, 0, 1));
        NightMarch all = Due.of(two + "mud 8 9 9 9 9 9;");
        Due.is("all four", 4, () -> all.game(0, 1, 0));
        Due.is("of all the first", 0, () -> all.game(0, 1, 1));
    }

    @Edge(promise = 32, says = "each stamps (LOUD 9) now, or not (1, 0)")
    static void gameStampsAt9() {
        String two = "beats 4;man 1 8;man 2 1;row 0;row 1;slack 0;";
        NightMarch eight = Due.of(two + "mud 8;");
        Due.is("9 is more than 8: both stamp", 11, () -> eight.game(0, 1, 1));
        NightMarch seven = Due.of(two + "mud 7;");
        Due.is("8 is more than 7: the other one alone stamps", 1, () -> seven.game(0, 1, 1));
        NightMarch nine = Due.of(two + "mud 9;");
        Due.is("9 is not more than 9: neither", 0, () -> nine.game(0, 1, 1));
        Due.is("LOUD stays", 81, () -> 10 * nine.man(0, 1) + nine.man(1, 1));
    }

    @Edge(promise = 32, says = "each gains HONOUR he has more in 6 NIGHTS")
    static void gameIn6Nights() {
        String two = "beats 4;man 1 1;man 2 1;row 0;row 1;slack 0;mud 9 9 9 9 9 ";
        NightMarch sixth = Due.of(two + "8;");
        Due.is("the sixth counts: all are alike", 4, () -> sixth.game(0, 1, 0));
        NightMarch seventh = Due.of(two + "9 8;");
        Due.is("the seventh doesn't", 1, () -> seventh.game(0, 1, 0));
    }

    @Edge(promise = 32, says = "and loses 1, if he stamped, and 1 for each of these NIGHTS in which the other one is NAMED.")
    static void gameLosesOnceANight() {
        // Without MUD nothing is heard. With it 1 is NAMED for both ROWS, if all who have BEAT 1 are LOUD by less than
        // 10 together: 0 may keep him from that by stamping, if he has that BEAT.
        String still = "beats 4;man 1 1;man 2 1;row 0;row 1;slack 0;hears beat=1 and sum+others<10 and mud;mud ";
        String keep = still.replace("man 1 1;", "man 3 1;");
        NightMarch no = Due.of(still + "1;");
        Due.is("he can't, and stays", 0, () -> no.game(0, 1, 1));
        NightMarch one = Due.of(keep + "1 0 0 0 0 0;");
        Due.is("one NIGHT, two ROWS: 1 saved by 1", 2, () -> one.game(0, 1, 0));
        Due.is("the first is neither", 0, () -> one.game(0, 1, 1));
        NightMarch two = Due.of(keep + "1 1 0 0 0 0;");
        Due.is("two NIGHTS: 2 saved by 1", 1, () -> two.game(0, 1, 0));
        Due.is("he stamps", 10, () -> two.game(0, 1, 1));
    }

    @Edge(promise = 32, says = "(99 at most)")
    static void gameAt99() {
        NightMarch x = Due.of(GAME);
        x.loud(0, 9);
        for (int i = 0; i < 4; i++) {
            x.nights(20);
        }
        x.nights(17);
        x.loud(0, 1);
        Due.is("97: 2 more by stamping", 10, () -> x.game(0, 1, 1));
        Due.is("97: that alone", 1, () -> x.game(0, 1, 0));
        x.loud(0, 9);
        x.nights(1);
        x.loud(0, 1);
        Due.is("98: 1 more, which he loses", 2, () -> x.game(0, 1, 0));
        x.loud(0, 9);
        x.nights(1);
        x.loud(0, 1);
        Due.is("99: no more", 1, () -> x.game(0, 1, 0));
        Due.is("99: neither", 0, () -> x.game(0, 1, 1));
    }

    @Edge(promise = 32, says = "the first (1; NONE: none)")
    static void gameWithoutRest() {
        // Of both ROWS nothing is heard but the BEAT of 0, and that just if one of both stamps: 0 would be NAMED then
        // in all 6 NIGHTS, and wants that one stamps, and 1 that both do, or neither.
        NightMarch x = Due.of("beats 4;man 1 1;man 3 1;row 0;row 1;mud 2;slack 0;hears beat=0 and mud<sum-others;");
        Due.is("none rests", 0, () -> x.game(0, 1, 0));
        Due.is("none", -1, () -> x.game(0, 1, 1));
        Due.is("none rests the other way round", 0, () -> x.game(1, 0, 0));
        Due.is("none", -1, () -> x.game(1, 0, 1));
    }

    // ---- Promise 33

    @Edge(promise = 33, says = "NoSuchElementException: another what. IllegalArgumentException (behind that): n.")
    static void reviewsOf0To40Nights() {
        NightMarch x = Due.of(THREE);
        for (int what = 0; what < 3; what++) {
            int asked = what;
            Due.within("n", 0, 40, Due.ILLEGAL, n -> x.reviews(7, n, asked));
        }
        Due.within("what", 0, 2, Due.NO_SUCH, what -> x.reviews(7, 40, what));
        Due.is("what and n", Due.NO_SUCH, () -> x.reviews(7, 41, 3));
        Due.is("what and n", Due.NO_SUCH, () -> x.reviews(7, -1, -1));
        x.nights(3);
        Due.is("no NIGHTS: HONOUR as it is", 6, () -> x.reviews(7, 0, 0));
        Due.is("no NIGHTS: none was MISTAKEN", 0, () -> x.reviews(7, 0, 1));
        Due.is("no NIGHTS: who has most", 2, () -> x.reviews(7, 0, 2));
    }

    @Edge(promise = 33, says = "(of like ones the least; -1 without)")
    static void reviewsOfLikeOnesOrWithout() {
        NightMarch none = new NightMarch();
        Due.is("without MEN", -1, () -> none.reviews(1, 40, 2));
        Due.is("without MEN: HONOUR", 0, () -> none.reviews(1, 40, 0));
        Due.is("without MEN: how often", 0, () -> none.reviews(1, 40, 1));
        NightMarch camp = Due.of("man 1 1;man 2 9;");
        Due.is("without ROWS all have none: the least", 0, () -> camp.reviews(1, 40, 2));
        // All is HEARD of both ROWS: the one with all BEATS is NAMED for both, in camp as well, till he limps.
        NightMarch x = Due.of("beats 12;man 0 1;man 0 1;man 4095 1;row 0;row 1;slack 12;hears 1;");
        Due.is("40 NIGHTS, 2 ROWS", 80, () -> x.reviews(1, 40, 0));
        Due.is("MISTAKEN each time", 80, () -> x.reviews(1, 40, 1));
        Due.is("who has most", 2, () -> x.reviews(1, 40, 2));
        x.nights(20);
        x.nights(20);
        Due.is("99 at most", 99, () -> x.reviews(1, 40, 0));
    }

    @Edge(promise = 33, says = "A seed becomes itself times 1103515245 and 12345 (an int that wraps); a DRAW of n is its bits 16 to 30 MOD n then.")
    static void seedsThatWrap() {
        int[] seeds = {
            0, 1, -1, 12345, -12345, Integer.MAX_VALUE, Integer.MIN_VALUE, 1 << 15, 1 << 16, 1 << 30, 0x55555555, 0xAAAAAAAA,
        };
        for (int seed : seeds) {
            for (int n = 0; n <= 40; n += n < 4 ? 1 : 9) {
                sameReviews(seed, n, 4, 1);
                sameReviews(seed, n, 12, 8);
            }
        }
    }

    @Edge(promise = 33, says = "n NIGHTS (0 to 40) from now on: ahead of each a DRAW of MEN, then a DRAW of 3")
    static void drawsOf1To8Men() {
        for (int men = 1; men <= 8; men++) {
            for (int beats = 4; beats <= 12; beats++) {
                for (int seed = 0; seed < 5; seed++) {
                    sameReviews(seed, 1, beats, men);
                    sameReviews(seed, 40, beats, men);
                }
            }
        }
    }

    @Edge(promise = 33, says = "(Without MEN the DRAW of 10 alone.)")
    static void drawsWithoutMen() {
        NightMarch x = new NightMarch();
        for (int seed : new int[] {0, 1, -1, Integer.MIN_VALUE, Integer.MAX_VALUE}) {
            for (int n : new int[] {0, 1, 40}) {
                Due.is("HONOUR", 0, () -> x.reviews(seed, n, 0));
                Due.is("how often", 0, () -> x.reviews(seed, n, 1));
                Due.is("the MAN", -1, () -> x.reviews(seed, n, 2));
            }
        }
    }

    /** So many MEN, each alone in a ROW, with LOUD 5, of whom each is NAMED by his own TREAD alone. */
    private static void sameReviews(int seed, int n, int beats, int men) {
        StringBuilder text = new StringBuilder("beats " + beats + ";slack 0;");
        for (int man = 0; man < men; man++) {
            text.append("man ").append(man + 1).append(" 5;row ").append(man).append(';');
        }
        NightMarch x = Due.of(text.toString());
        int[] due = plainReviews(seed, n, beats, men);
        for (int what = 0; what < 3; what++) {
            Due.same("seed " + seed + " in " + n + " of " + men + " by " + beats, due[what], x.reviews(seed, n, what));
        }
    }

    private static int[] plainReviews(int seed, int n, int beats, int men) {
        BigInteger state = BigInteger.valueOf(seed & 0xFFFFFFFFL);
        int[] treads = new int[men];
        int[] louds = new int[men];
        int[] honours = new int[men];
        for (int man = 0; man < men; man++) {
            treads[man] = man + 1;
            louds[man] = 5;
        }
        int mistaken = 0;
        for (int night = 0; night < n; night++) {
            state = after(state);
            int drawn = bits(state) % men;
            state = after(state);
            int kind = bits(state) % 3;
            if (kind == 0) {
                state = after(state);
                treads[drawn] ^= 1 << bits(state) % beats;
            } else if (kind == 1) {
                state = after(state);
                louds[drawn] = bits(state) % 9 + 1;
            }
            state = after(state);
            int mud = bits(state) % 10;
            for (int man = 0; man < men; man++) {
                int heard = louds[man] > mud ? treads[man] : 0;
                int named = 0;
                while (named < men && treads[named] != heard) {
                    named++;
                }
                if (named < men) {
                    honours[named] = Math.min(99, honours[named] + 1);
                    mistaken += named == man ? 0 : 1;
                }
            }
        }
        int sum = 0;
        int best = 0;
        for (int man = 0; man < men; man++) {
            sum += honours[man];
            best = honours[man] > honours[best] ? man : best;
        }
        return new int[] {sum, mistaken, best};
    }

    private static BigInteger after(BigInteger state) {
        return state.multiply(BigInteger.valueOf(1103515245)).add(BigInteger.valueOf(12345))
            .mod(BigInteger.ONE.shiftLeft(32));
    }

    private static int bits(BigInteger state) {
        return state.shiftRight(16).intValue() & 32767;
    }
}
