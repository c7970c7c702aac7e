/** Boundary cases of what is told and what is done: promises 5 to 13, 48 and 49. */
final class ActEdges {
    /** Three alone, by MUD: all NAMED in the first NIGHT of three, 1 and 2 in the second, 2 in the third. */
    private static final String THREE = "beats 4;man 1 3;man 2 5;man 4 7;row 0;row 1;row 2;mud 2 4 6;slack 0;";
    /** A full ROW, one of three, one in camp. */
    private static final String CROWD = "man 1 1;".repeat(8) + "row 0 1 2 3;row 4 5 6;";
    /** One who is NAMED each NIGHT. */
    private static final String ONE = "beats 4;man 1 1;row 0;mud 0;slack 0;";
    private static final String EIGHT = "beats 12;" + "man 1 1;".repeat(8)
        + "row 0;row 1;row 2;row 3;row 4;row 5;row 6;row 7;mud 0;slack 0;";

    private ActEdges() {
    }

    private static void goBy(NightMarch x, int nights) {
        for (int left = nights; left > 0; left -= 20) {
            Due.isTrue("nights go by", x.nights(Math.min(left, 20)) > 0);
        }
    }

    private static void refused(NightMarch x, int acts, int[] was) {
        Due.is("STATUS 1", acts, () -> x.count(13));
        Due.is("no other STATUS", 0, () -> x.count(12) + x.count(14));
        Due.stays("a refused ACT", was, x);
    }

    // ---- Promise 5

    @Edge(promise = 5, says = "NoSuchElementException: another what.")
    static void countOfAnotherWhat() {
        NightMarch x = Due.of(THREE);
        Due.within("count", 0, 14, Due.NO_SUCH, x::count);
        Due.within("count of a new object", 0, 14, Due.NO_SUCH, new NightMarch()::count);
    }

    @Edge(promise = 5, says = "9 ACTS that are kept, 10 SEEN, 11 bytes of the tape, 12 to 14 STATUS 0 to 2.")
    static void countsAtTheirMost() {
        NightMarch x = Due.of(EIGHT.replace("mud 0;slack 0;", "mud 9;slack 12;hears 1;"));
        for (int man = 1; man < 8; man++) {
            x.heel(man, 0);
        }
        goBy(x, 999);
        x.image();
        for (int i = 0; i < 8; i++) {
            x.see(7, 12, 11, true);
        }
        for (int i = 0; i < 35; i++) {
            x.feed(0, 0, 0, 0, 0);
        }
        int[] counts = {12, 8, 8, 12, 999, 9, 99, 0, 28, 40, 8, 700, 0, 0, 0};
        for (int what = 0; what < counts.length; what++) {
            Due.same("count " + what, counts[what], x.count(what));
        }
        NightMarch own = Due.of("man 1 9;man 2 9;man 4 9;man 8 9;man 16 9;man 32 9;man 64 9;man 128 9;"
            + "row 0;row 1;row 2;row 3;row 4;row 5;row 6;row 7;");
        goBy(own, 100);
        Due.is("HONOUR of all eight", 8 * 99, () -> own.count(6));
    }

    @Edge(promise = {5, 3}, says = "The NIGHT is 0, HONOUR of all 0.")
    static void nightAndHonourAre0() {
        NightMarch x = Due.of(ONE);
        Due.is("the NIGHT", 0, () -> x.count(4));
        Due.is("HONOUR of all", 0, () -> x.count(6));
        Due.is("HONOUR", 0, () -> x.man(0, 2));
        x.nights(7);
        Due.army(x, ONE);
        Due.is("the NIGHT anew", 0, () -> x.count(4));
        Due.is("HONOUR of all anew", 0, () -> x.count(6));
    }

    @Edge(promise = 5, says = "IN STEP: couples of ROWS of which the same is HEARD now: how many.")
    static void inStepOfNoneOneAndEight() {
        Due.is("no ROWS", 0, () -> new NightMarch().count(8));
        NightMarch one = Due.of(ONE);
        Due.is("one ROW", 0, () -> one.count(8));
        NightMarch eight = Due.of(EIGHT);
        Due.is("all of eight", 28, () -> eight.count(8));
        eight.heel(7, 11);
        Due.is("all of seven", 21, () -> eight.count(8));
        eight.heel(0, 11);
        Due.is("all of six, and two", 16, () -> eight.count(8));
    }

    @Edge(promise = 5, says = "7 MEN in camp (bits)")
    static void menInCampFromNoneToAll() {
        NightMarch x = Due.of(CROWD);
        Due.is("the last one", 128, () -> x.count(7));
        x.put(7, 1);
        Due.is("none", 0, () -> x.count(7));
        for (int man = 0; man < 8; man++) {
            x.put(man, -1);
        }
        Due.is("all", 255, () -> x.count(7));
        Due.is("no MEN", 0, () -> new NightMarch().count(7));
    }

    @Edge(promise = {5, 3, 8, 27}, says = "STATUS: how many calls were refused: 0 of TEXTS with a FAULT, 1 of ACTS, 2 of what is SEEN.")
    static void statusOfEachKind() {
        NightMarch x = Due.of(THREE);
        x.nights(0);
        x.put(0, 0);
        x.loud(0, 0);
        x.change(1, 1);
        Due.is("ACTS", 4, () -> x.count(13));
        x.see(0, 0, 0, true);
        x.see(0, 13, 0, true);
        Due.is("SEEN", 2, () -> x.count(14));
        Due.army(x, "#");
        Due.is("TEXTS", 1, () -> x.count(12));
        x.undo();
        x.restore();
        Due.answer(() -> x.army(-1));
        Due.answer(() -> x.man(9, 9));
        Due.answer(() -> x.put(0, 9));
        Due.answer(() -> x.put(9, 0));
        Due.answer(() -> x.heel(0, 9));
        Due.answer(() -> x.loud(9, 0));
        Due.answer(() -> x.change(9, 9) ? 1 : 0);
        Due.answer(() -> x.see(9, 0, 0, true));
        Due.answer(() -> x.see(0, 0, 9, true));
        for (int i = 0; i < 36; i++) {
            x.feed(0, 0, 0, 0, 0);
        }
        Due.is("no more TEXTS", 1, () -> x.count(12));
        Due.is("no more ACTS", 4, () -> x.count(13));
        Due.is("no more SEEN", 2, () -> x.count(14));
    }

    // ---- Promise 6

    @Edge(promise = 6, says = "NoSuchElementException: no such MAN (as everywhere), what.")
    static void manThatIsNot() {
        NightMarch x = Due.of(THREE);
        for (int what = 0; what < 4; what++) {
            int asked = what;
            Due.within("man", 0, 2, Due.NO_SUCH, man -> x.man(man, asked));
            Due.is("of nobody", Due.NO_SUCH, () -> new NightMarch().man(0, asked));
        }
        for (int man = 0; man < 3; man++) {
            int asked = man;
            Due.within("what", 0, 3, Due.NO_SUCH, what -> x.man(asked, what));
        }
    }

    @Edge(promise = 6, says = "3 the ROW (NONE: in camp).")
    static void rowOfAMan() {
        NightMarch x = Due.of(EIGHT);
        Due.is("the first", 0, () -> x.man(0, 3));
        Due.is("the last", 7, () -> x.man(7, 3));
        x.put(7, -1);
        Due.is("in camp", -1, () -> x.man(7, 3));
    }

    // ---- Promise 7

    @Edge(promise = 7, says = "NoSuchElementException: no such ROW (as everywhere), what.")
    static void rowThatIsNot() {
        NightMarch x = Due.of(THREE);
        for (int what = 0; what < 3; what++) {
            int asked = what;
            Due.within("row", 0, 2, Due.NO_SUCH, row -> x.row(row, asked));
            Due.is("of none", Due.NO_SUCH, () -> new NightMarch().row(0, asked));
        }
        Due.within("what", 0, 2, Due.NO_SUCH, what -> x.row(2, what));
    }

    @Edge(promise = 7, says = "2 who is NAMED (NONE).")
    static void nobodyIsNamed() {
        NightMarch x = Due.of("beats 4;man 1 1;man 14 1;row 0;mud 0;slack 0;");
        Due.is("the first MAN", 0, () -> x.row(0, 2));
        x.heel(0, 1);
        Due.is("he still", 0, () -> x.row(0, 2));
        x.put(0, -1);
        Due.is("nobody", -1, () -> x.row(0, 2));
        x.put(1, 0);
        Due.is("the last MAN", 1, () -> x.row(0, 2));
    }

    @Edge(promise = 7, says = "NAMED for a ROW is the MAN (in THE MARCH or in camp) whose TREAD differs from HEARD at fewest BEATS")
    static void namedInCampOrInAnotherRow() {
        NightMarch x = Due.of("beats 4;man 7 1;man 14 1;man 15 1;row 0;row 1;slack 1;hears 1;");
        Due.is("one in camp is nearest", 2, () -> x.row(0, 2));
        x.put(2, 1);
        Due.is("one in another ROW", 2, () -> x.row(0, 2));
        x.heel(2, 3);
        Due.is("himself, as like as he", 0, () -> x.row(0, 2));
        Due.is("for another ROW, too", 0, () -> x.row(1, 2));
    }

    @Edge(promise = 7, says = "HEARD of a ROW are BEATS at which HEARS gives more than 0")
    static void heardIsMoreThan0() {
        String men = "beats 4;man 1 1;row 0;hears ";
        NightMarch below = Due.of(men + "beat-2;");
        Due.is("-2, -1, 0, 1", 8, () -> below.row(0, 1));
        NightMarch least = Due.of(men + "8192*8192*32;");
        Due.is("the least int", 0, () -> least.row(0, 1));
        NightMarch most = Due.of(men + "8192*8192*32-1;");
        Due.is("the greatest int", 15, () -> most.row(0, 1));
    }

    @Edge(promise = 7, says = "(without it: at which 'sum' is more than MUD), as bits.")
    static void sumIsMoreThanMud() {
        for (int mud = 0; mud < 10; mud++) {
            NightMarch x = Due.of("beats 12;man 2049 1;man 0 1;row 0 1;mud " + mud + ";");
            for (int loud = 1; loud < 10; loud++) {
                x.loud(0, loud);
                Due.same("LOUD " + loud + " in MUD " + mud, loud > mud ? 2049 : 0, x.row(0, 1));
            }
            x.heel(1, 11);
            Due.same("9 and 1 together", 10 > mud ? (9 > mud ? 2049 : 2048) : 0, x.row(0, 1));
        }
        NightMarch without = Due.of("beats 4;man 1 2;row 0;");
        Due.is("2 in MUD 2 of its own", 0, () -> without.row(0, 1));
        without.loud(0, 3);
        Due.is("3 in it", 1, () -> without.row(0, 1));
    }

    @Edge(promise = {7, 34}, says = "if these are no more than SLACK; else nobody")
    static void namedByNoMoreThanSlack() {
        for (int slack = 0; slack <= 12; slack++) {
            NightMarch x = Due.of("beats 12;man 4095 1;row 0;slack " + slack + ";hears 1;");
            for (int unlike = 0; unlike <= 12; unlike++) {
                Due.same("unlike at " + unlike + " with SLACK " + slack, unlike <= slack ? 0 : -1, x.row(0, 2));
                Due.same("NEXT TO", unlike <= slack ? 0 : -1, x.nextTo(4095));
                if (unlike < 12) {
                    x.heel(0, unlike);
                }
            }
        }
    }

    @Edge(promise = {7, 34}, says = "(of like ones the least), if these are no more than SLACK")
    static void namedOfLikeOnesTheLeast() {
        NightMarch x = Due.of("beats 4;man 3 1;man 7 1;man 11 1;man 7 1;row 3;slack 4;hears 1;");
        Due.is("the nearest is not the first one; of three like ones the first", 1, () -> x.row(0, 2));
        x.heel(1, 0);
        Due.is("of two", 2, () -> x.row(0, 2));
        x.heel(3, 3);
        Due.is("the last one alone, who is in the ROW", 3, () -> x.row(0, 2));
        x.put(3, -1);
        Due.is("in camp he is NAMED, too", 3, () -> x.row(0, 2));
        x.heel(0, 2);
        x.heel(0, 3);
        Due.is("the first of all", 0, () -> x.row(0, 2));
    }

    @Edge(promise = {7, 9}, says = "his ROW may be left without any (nothing of its own is heard then)")
    static void rowWithoutAny() {
        NightMarch x = Due.of("beats 4;man 1 9;man 2 9;row 0;row 1;mud 0;slack 0;");
        x.put(0, -1);
        Due.is("ROWS", 2, () -> x.count(2));
        Due.is("no MEN in it", 0, () -> x.row(0, 0));
        Due.is("nothing is HEARD", 0, () -> x.row(0, 1));
        Due.is("nobody is NAMED", -1, () -> x.row(0, 2));
        x.nights(1);
        Due.is("it goes behind, too", 0, () -> x.row(1, 0));
        Due.is("he may be PUT in it again", -1, () -> x.put(0, 1));
        Due.is("and is HEARD", 1, () -> x.row(1, 1));
        NightMarch y = Due.of("beats 4;man 1 9;man 2 9;row 0;row 1;hears sum+others;");
        y.put(0, -1);
        Due.is("what is of others is HEARD", 2, () -> y.row(0, 1));
    }

    // ---- Promise 8

    @Edge(promise = 8, says = "NONE (STATUS 1): not 1 to 20, it would be above 999.")
    static void nights1To20() {
        NightMarch x = Due.of(THREE);
        int[] was = Due.whole(x);
        int refusals = 0;
        for (int bad : new int[] {0, -1, 21, Integer.MIN_VALUE, Integer.MAX_VALUE}) {
            Due.is("nights " + bad, -1, () -> x.nights(bad));
            refused(x, ++refusals, was);
        }
        Due.is("one", 1, () -> x.nights(1));
        Due.is("twenty", 21, () -> x.nights(20));
        Due.is("each is one ACT", 2, () -> x.count(9));
    }

    @Edge(promise = 8, says = "NIGHTS go by (1 to 20)")
    static void nightsAreTheSameOneByOne() {
        NightMarch once = Due.of(THREE);
        NightMarch oneByOne = Due.of(THREE);
        once.nights(20);
        for (int night = 1; night <= 20; night++) {
            Due.same("the NIGHT", night, oneByOne.nights(1));
        }
        int[] was = Due.whole(oneByOne);
        was[9] = 1; // ACTS
        Due.stays("20 at once", was, once);
        Due.is("undone at once", 0, once::undo);
        Due.is("the NIGHT", 0, () -> once.count(4));
        Due.is("undone one by one", 19, oneByOne::undo);
        Due.is("the NIGHT", 19, () -> oneByOne.count(4));
    }

    @Edge(promise = 8, says = "it would be above 999.")
    static void night999IsTheLast() {
        NightMarch x = Due.of(ONE);
        goBy(x, 979);
        x.image();
        Due.is("from 979 to 999", 999, () -> x.nights(20));
        int[] was = Due.whole(x);
        Due.is("above it", -1, () -> x.nights(1));
        Due.is("far above it", -1, () -> x.nights(20));
        refused(x, 2, was);
        x.restore();
        Due.is("to 980", 980, () -> x.nights(1));
        Due.is("to 1000", -1, () -> x.nights(20));
        Due.is("to 999", 999, () -> x.nights(19));
        Due.is("without an army, too", -1, () -> {
            NightMarch y = new NightMarch();
            goBy(y, 999);
            return y.nights(1);
        });
    }

    @Edge(promise = {8, 15}, says = "for each ROW that MAN has 1 HONOUR more (99 at most)")
    static void honour99AtMost() {
        NightMarch x = Due.of(ONE);
        goBy(x, 98);
        Due.is("98", 98, () -> x.man(0, 2));
        Due.is("in no NIGHT", 98, () -> x.honour(0, 0));
        Due.is("in one", 99, () -> x.honour(0, 1));
        Due.is("in two", 99, () -> x.honour(0, 2));
        x.nights(1);
        Due.is("99", 99, () -> x.man(0, 2));
        x.nights(1);
        Due.is("99 at most", 99, () -> x.man(0, 2));
        Due.is("in 40", 99, () -> x.honour(0, 40));
        // All are alike: the first one is NAMED for each of two ROWS.
        NightMarch y = Due.of("beats 4;man 1 1;man 1 1;row 0;row 1;mud 0;slack 0;");
        y.nights(1);
        Due.is("for each ROW", 2, () -> y.man(0, 2));
        goBy(y, 48);
        Due.is("98", 98, () -> y.man(0, 2));
        Due.is("not 100", 99, () -> y.honour(0, 1));
        y.nights(1);
        Due.is("not 100", 99, () -> y.man(0, 2));
        Due.is("nor the other one's", 99, () -> y.count(6));
    }

    @Edge(promise = 8, says = "then the first ROW goes behind the last one (its number, too: it is the last ROW then).")
    static void firstRowGoesBehindTheLast() {
        NightMarch x = Due.of(EIGHT);
        x.nights(1);
        Due.is("the first is the last", 1, () -> x.row(7, 0));
        Due.is("the second is the first", 2, () -> x.row(0, 0));
        Due.is("his ROW", 7, () -> x.man(0, 3));
        x.nights(7);
        Due.is("round", 1, () -> x.row(0, 0));
        Due.is("round", 128, () -> x.row(7, 0));
        NightMarch one = Due.of(ONE);
        one.nights(3);
        Due.is("alone it stays", 1, () -> one.row(0, 0));
        NightMarch none = new NightMarch();
        Due.is("without ROWS", 20, () -> none.nights(20));
        Due.is("no ROW comes", Due.NO_SUCH, () -> none.row(0, 0));
    }

    @Edge(promise = 8, says = "A NIGHT: for each ROW that MAN has 1 HONOUR more")
    static void nightGoesByInItsOwnMudAndOrder() {
        // 0 is heard in front alone, as nobody is ahead of him, and in the first NIGHT of two alone.
        NightMarch x = Due.of("beats 4;man 1 1;man 1 1;man 4 1;row 0;row 1;row 2;mud 1 0;slack 0;"
            + "hears mud and sum and not others and beat=0;");
        x.nights(1);
        Due.is("beside 1 he isn't heard", 0, () -> x.count(6));
        NightMarch y = Due.of("beats 4;man 1 1;man 2 1;man 4 1;row 0;row 1;row 2;mud 1 0;slack 0;"
            + "hears mud and sum and not others;");
        y.nights(1);
        Due.is("in MUD 1 all are", 3, () -> y.count(6));
        y.nights(1);
        Due.is("in MUD 0 none is", 3, () -> y.count(6));
        y.nights(1);
        Due.is("in MUD 1 again", 6, () -> y.count(6));
        NightMarch z = Due.of("beats 4;man 1 1;man 1 1;man 2 1;row 0;row 1;row 2;mud 1;slack 0;hears sum and not others;");
        z.nights(1);
        Due.is("0 beside 1: 2 alone", 1, () -> z.count(6));
        z.nights(1);
        Due.is("0 apart from 1: 0 for both, and 2", 4, () -> z.count(6));
        Due.is("twice for both", 2, () -> z.man(0, 2));
    }

    // ---- Promise 9

    @Edge(promise = 9, says = "-2 (STATUS 1): he is there, there are 4.")
    static void putWhereHeIsOrWhere4Are() {
        NightMarch x = Due.of(CROWD);
        int[] was = Due.whole(x);
        Due.is("there are 4", -2, () -> x.put(7, 0));
        refused(x, 1, was);
        Due.is("there are 4, from another ROW", -2, () -> x.put(4, 0));
        refused(x, 2, was);
        Due.is("he is there, with 3 others", -2, () -> x.put(3, 0));
        refused(x, 3, was);
        Due.is("he is there, with 2 others", -2, () -> x.put(6, 1));
        refused(x, 4, was);
        Due.is("he is in camp", -2, () -> x.put(7, -1));
        refused(x, 5, was);
    }

    @Edge(promise = 9, says = "PUT (row NONE: in camp): the ROW as it was.")
    static void putInCampAndBack() {
        NightMarch x = Due.of(CROWD);
        Due.is("from the first ROW", 0, () -> x.put(0, -1));
        Due.is("in camp", -1, () -> x.man(0, 3));
        Due.is("from camp to the last ROW", -1, () -> x.put(0, 1));
        Due.is("from there to the first one", 1, () -> x.put(0, 0));
        Due.is("in it", 15, () -> x.row(0, 0));
        Due.is("out of the last one", 112, () -> x.row(1, 0));
    }

    @Edge(promise = 9, says = "a MAN is PUT in a ROW (with fewer than 4 MEN, another than his own), or in camp")
    static void allArePutInCamp() {
        NightMarch x = Due.of(CROWD);
        for (int man = 0; man < 7; man++) {
            Due.same("the ROW as it was", man < 4 ? 0 : 1, x.put(man, -1));
        }
        Due.is("all eight", 255, () -> x.count(7));
        Due.is("nobody is left", 0, () -> x.row(0, 0) + x.row(1, 0));
        for (int man = 4; man < 8; man++) {
            Due.same("from camp", -1, x.put(man, 0));
        }
        Due.is("four of them", 240, () -> x.row(0, 0));
        Due.is("no fifth", -2, () -> x.put(0, 0));
    }

    @Edge(promise = 9, says = "(with fewer than 4 MEN, another than his own)")
    static void putWithFewerThan4() {
        NightMarch x = Due.of(CROWD);
        Due.is("there are 3", -1, () -> x.put(7, 1));
        Due.is("there are 4 now", -2, () -> x.put(0, 1));
        Due.is("in camp there is room for all", 0, () -> x.put(0, -1));
        Due.is("there are 3 again", 1, () -> x.put(7, 0));
        Due.is("his ROW", 0, () -> x.man(7, 3));
        Due.is("ACTS", 3, () -> x.count(9));
    }

    @Edge(promise = 9, says = "NoSuchElementException (ahead): no such MAN, ROW.")
    static void putOfAManOrRowThatIsNot() {
        NightMarch x = Due.of(CROWD);
        int[] was = Due.whole(x);
        Due.within("row", -1, 1, Due.NO_SUCH, row -> x.put(3, row));
        while (x.undo() > 0) {
            continue;
        }
        int refusals = x.count(13);
        for (int bad : new int[] {-1, 8, Integer.MIN_VALUE, Integer.MAX_VALUE}) {
            Due.is("no such MAN in a ROW", Due.NO_SUCH, () -> x.put(bad, 0));
            Due.is("no such MAN in camp", Due.NO_SUCH, () -> x.put(bad, -1));
            Due.is("no such MAN, ROW", Due.NO_SUCH, () -> x.put(bad, 2));
        }
        Due.is("no STATUS", refusals, () -> x.count(13));
        Due.stays("what throws", was, x);
        Due.is("the last MAN in the last ROW", -1, () -> x.put(7, 1));
        NightMarch none = Due.of("man 1 1;");
        Due.is("no ROW at all", Due.NO_SUCH, () -> none.put(0, 0));
        Due.is("in camp", -2, () -> none.put(0, -1));
    }

    // ---- Promise 10

    @Edge(promise = 10, says = "NoSuchElementException: also no such BEAT.")
    static void heelOfABeatThatIsNot() {
        NightMarch x = Due.of(THREE);
        int[] was = Due.whole(x);
        for (int bad : new int[] {-1, 4, 32, Integer.MIN_VALUE, Integer.MAX_VALUE}) {
            Due.is("beat " + bad, Due.NO_SUCH, () -> x.heel(0, bad));
        }
        for (int bad : new int[] {-1, 3, Integer.MIN_VALUE, Integer.MAX_VALUE}) {
            Due.is("man " + bad, Due.NO_SUCH, () -> x.heel(bad, 0));
        }
        refused(x, 0, was);
        Due.is("the first BEAT goes", 0, () -> x.heel(0, 0));
        Due.is("the last BEAT comes", 12, () -> x.heel(2, 3));
        NightMarch y = Due.of("beats 12;man 4095 1;");
        Due.is("the last of 12", 2047, () -> y.heel(0, 11));
        Due.is("comes again", 4095, () -> y.heel(0, 11));
        Due.is("no more", Due.NO_SUCH, () -> y.heel(0, 12));
    }

    // ---- Promise 11

    @Edge(promise = 11, says = "LOUD of one becomes another (1 to 9)")
    static void loudOfEach() {
        NightMarch x = Due.of(THREE);
        for (int loud = 1; loud <= 9; loud++) {
            Due.same("LOUD as it was", loud == 1 ? 3 : loud - 1, x.loud(0, loud));
            Due.same("LOUD as it is", loud, x.man(0, 1));
            Due.same("HEARD in MUD 2", loud > 2 ? 1 : 0, x.row(0, 1));
        }
        Due.is("of the others it stays", 57, () -> 10 * x.man(1, 1) + x.man(2, 1));
    }

    @Edge(promise = 11, says = "LOUD as it was. NONE (STATUS 1): not 1 to 9.")
    static void loud1To9() {
        NightMarch x = Due.of(THREE);
        int[] was = Due.whole(x);
        int refusals = 0;
        for (int bad : new int[] {0, 10, -1, Integer.MIN_VALUE, Integer.MAX_VALUE}) {
            Due.is("loud " + bad, -1, () -> x.loud(2, bad));
            refused(x, ++refusals, was);
        }
        Due.is("as it was", 7, () -> x.loud(2, 1));
        Due.is("as it was", 1, () -> x.loud(2, 9));
        Due.is("as it is", 9, () -> x.man(2, 1));
        for (int bad : new int[] {-1, 3, Integer.MIN_VALUE, Integer.MAX_VALUE}) {
            Due.is("no such MAN", Due.NO_SUCH, () -> x.loud(bad, 0));
        }
        Due.is("which is no refusal", refusals, () -> x.count(13));
        Due.is("ACTS", 2, () -> x.count(9));
    }

    // ---- Promise 12

    @Edge(promise = 12, says = "False (STATUS 1): both are one.")
    static void changeOfOneRow() {
        NightMarch x = Due.of(THREE);
        int[] was = Due.whole(x);
        Due.isTrue("the first with itself", !x.change(0, 0));
        Due.isTrue("the last with itself", !x.change(2, 2));
        refused(x, 2, was);
        for (int bad : new int[] {-1, 3, Integer.MIN_VALUE, Integer.MAX_VALUE}) {
            Due.is("no such ROW", Due.NO_SUCH, () -> x.change(bad, 0) ? 1 : 0);
            Due.is("no such other ROW", Due.NO_SUCH, () -> x.change(0, bad) ? 1 : 0);
            Due.is("both are none", Due.NO_SUCH, () -> x.change(bad, bad) ? 1 : 0);
        }
        refused(x, 2, was);
        Due.isTrue("the first and the last", x.change(0, 2));
        Due.is("the first", 4, () -> x.row(0, 0));
        Due.is("between them", 2, () -> x.row(1, 0));
        Due.is("the last", 1, () -> x.row(2, 0));
        Due.isTrue("the greater one first", x.change(1, 0));
        Due.is("the first", 2, () -> x.row(0, 0));
    }

    // ---- Promise 13

    @Edge(promise = 13, says = "NONE: there is none.")
    static void undoOfNone() {
        NightMarch x = Due.of(THREE);
        int[] was = Due.whole(x);
        Due.is("of none", -1, x::undo);
        refused(x, 0, was);
        x.nights(1);
        Due.is("none is left", 0, x::undo);
        Due.is("of none", -1, x::undo);
        refused(x, 0, was);
        x.nights(21);
        Due.is("a refused ACT is none", -1, x::undo);
        Due.is("of a new object", -1, () -> new NightMarch().undo());
    }

    @Edge(promise = 13, says = "The last ACT is UNDONE: how many are left.")
    static void undoLeavesFewer() {
        NightMarch x = Due.of(THREE);
        x.loud(0, 9);
        x.loud(0, 1);
        Due.is("one is left", 1, x::undo);
        Due.is("LOUD", 9, () -> x.man(0, 1));
        Due.is("none is left", 0, x::undo);
        Due.is("LOUD", 3, () -> x.man(0, 1));
        x.loud(0, 2);
        Due.is("an undone one doesn't count", 1, () -> x.count(9));
    }

    @Edge(promise = {13, 5}, says = "ACTS (at most 40 are kept, the latest ones)")
    static void acts40AtMost() {
        NightMarch x = Due.of(EIGHT);
        int[][] was = new int[42][];
        for (int act = 1; act <= 41; act++) {
            was[act - 1] = Due.whole(x);
            actOfAKind(x, act);
            Due.same("ACTS", Math.min(act, 40), x.count(9));
        }
        undo40(x, was);
        Due.is("the first one stays", 3, () -> x.man(1, 0));
    }

    private static void actOfAKind(NightMarch x, int act) {
        switch (act % 5) {
            case 1: x.heel(act % 8, act % 12); break;
            case 2: x.loud(act % 8, 2 + act % 8); break;
            case 3: x.change(act % 8, (act + 3) % 8); break;
            case 4: x.put(7, act % 2 == 0 ? -1 : x.man(0, 3)); break;
            default: x.nights(1 + act % 20); break;
        }
    }

    /** The latest 40 of 41 ACTS are taken back, each to what was ahead of it. */
    private static void undo40(NightMarch x, int[][] was) {
        for (int left = 39; left >= 0; left--) {
            Due.same("left", left, x.undo());
            was[left + 1][9] = left;
            Due.stays("ACT " + (left + 2) + " is undone", was[left + 1], x);
        }
        Due.is("no more", -1, x::undo);
    }

    @Edge(promise = 13, says = "They are UNDONE, the last one first.")
    static void undoneTheLastOneFirst() {
        NightMarch x = Due.of(THREE);
        int[][] was = new int[8][];
        was[0] = Due.whole(x);
        x.nights(20);
        was[1] = Due.whole(x);
        x.change(0, 2);
        was[2] = Due.whole(x);
        x.put(0, -1);
        was[3] = Due.whole(x);
        x.nights(1);
        was[4] = Due.whole(x);
        x.put(1, 0);
        was[5] = Due.whole(x);
        x.loud(2, 1);
        was[6] = Due.whole(x);
        x.heel(2, 3);
        was[7] = Due.whole(x);
        x.put(0, 2);
        for (int left = 7; left >= 0; left--) {
            Due.same("left", left, x.undo());
            Due.stays("undone to " + left, was[left], x);
        }
    }

    @Edge(promise = 13, says = "(99 at most)")
    static void honourAt99IsUndone() {
        NightMarch x = Due.of(ONE);
        goBy(x, 90);
        x.nights(20);
        Due.is("99", 99, () -> x.man(0, 2));
        x.nights(1);
        x.undo();
        Due.is("99 it was", 99, () -> x.man(0, 2));
        x.undo();
        Due.is("90 it was", 90, () -> x.man(0, 2));
    }

    // ---- Promises 48 and 49

    @Edge(promise = 48, says = "are kept as an image, in place of another one.")
    static void imageInPlaceOfAnother() {
        NightMarch x = Due.of(THREE);
        x.image();
        x.nights(5);
        x.heel(0, 3);
        x.image();
        int[] was = Due.whole(x);
        x.nights(1);
        Due.isTrue("restored", x.restore());
        Due.stays("the later one", was, x);
        Due.is("its ACTS", 1, x::undo);
        Due.is("its ACTS", 0, x::undo);
        Due.is("the NIGHT", 0, () -> x.count(4));
    }

    @Edge(promise = 48, says = "The NIGHT, TREADS, LOUD, HONOUR, ROWS, ACTS and what is SEEN are kept as an image")
    static void imageKeepsNeitherTapeNorStatus() {
        NightMarch x = Due.of(THREE);
        x.see(2, 12, 3, true);
        x.nights(20);
        x.image();
        int[] was = Due.whole(x);
        x.undo();
        x.heel(0, 0);
        x.loud(1, 1);
        x.put(2, 1);
        x.change(0, 1);
        x.nights(2);
        x.forget();
        x.see(0, 1, 0, false);
        x.see(0, 1, 1, true);
        x.nights(0);
        x.see(0, 0, 0, true);
        Due.army(x, "##");
        x.feed(1, 2, 3, 4, 5);
        Due.isTrue("restored", x.restore());
        was[11] = 20; // the tape
        was[15] = 0; // the place of the FAULT
        Due.stays("as the image", was, x);
        Due.is("TEXTS", 1, () -> x.count(12));
        Due.is("ACTS", 1, () -> x.count(13));
        Due.is("SEEN", 1, () -> x.count(14));
    }

    @Edge(promise = 48, says = "ACTS and what is SEEN are kept")
    static void imageOf40ActsAnd8Seen() {
        NightMarch x = Due.of(EIGHT);
        int[][] was = new int[42][];
        for (int act = 1; act <= 41; act++) {
            was[act - 1] = Due.whole(x);
            actOfAKind(x, act);
        }
        for (int i = 0; i < 8; i++) {
            x.see(i, 12 - i, i, false);
        }
        int[] then = Due.whole(x);
        x.image();
        for (int act = 43; act <= 84; act++) {
            actOfAKind(x, act);
        }
        x.forget();
        for (int i = 0; i < 8; i++) {
            x.see(0, 1, 3, true);
        }
        Due.isTrue("restored", x.restore());
        Due.stays("as the image", then, x);
        Due.is("SEEN", 8, () -> x.count(10));
        Due.is("full", -1, () -> x.see(0, 1, 0, true));
        x.forget();
        undo40(x, was);
    }

    @Edge(promise = 48, says = "what is SEEN are kept as an image")
    static void imageOfEachSeen() {
        NightMarch x = Due.of("beats 4;man 0 1;man 0 1;row 0;row 1;mud 0;slack 0;");
        x.see(1, 12, 3, true); // ROW 0 is there in the twelfth NIGHT
        int[] was = Due.whole(x);
        Due.is("0 at 3", 3, () -> x.limped(1));
        x.image();
        for (int other = 0; other < 4; other++) {
            x.forget();
            x.see(other == 0 ? 0 : 1, other == 1 ? 11 : 12, other == 2 ? 2 : 3, other != 3);
            Due.isTrue("another one", x.limped(0) != 1 || x.limped(1) != 3);
            x.restore();
            Due.stays("the one as it was", was, x);
        }
    }

    @Edge(promise = 49, says = "They are as the image again: true. False: there is none.")
    static void restoreWithoutImage() {
        Due.isTrue("a new object", !new NightMarch().restore());
        NightMarch x = Due.of(THREE);
        x.nights(1);
        int[] was = Due.whole(x);
        Due.isTrue("none", !x.restore());
        Due.stays("without", was, x);
        x.image();
        x.nights(1);
        Due.isTrue("there is one", x.restore());
        Due.stays("restored", was, x);
        x.undo();
        Due.isTrue("it stays", x.restore());
        Due.stays("restored again", was, x);
        Due.army(x, "beats");
        Due.isTrue("it stays with a FAULT", x.restore());
        Due.army(x, THREE);
        Due.isTrue("it is gone with an army", !x.restore());
        NightMarch y = new NightMarch();
        y.image();
        y.nights(9);
        Due.isTrue("without an army", y.restore());
        Due.is("the NIGHT", 0, () -> y.count(4));
    }
}
