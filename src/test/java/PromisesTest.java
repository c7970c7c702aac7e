/** Each promise by hand: ordinary inputs, the edges that the document names, wrong inputs. */
public final class PromisesTest {
    /** Two ROWS, a MAN in camp: of the first ROW all is HEARD, of the other one nothing. */
    private static final String PAIR = "beats 4;man 5 3;man 10 4;man 3 2;man 15 1;row 0 1;row 2;mud 2;slack 1;";
    /** Three alone, by MUD: all NAMED in the first NIGHT of three, 1 and 2 in the second, 2 in the third. */
    private static final String THREE = "beats 4;man 1 3;man 2 5;man 4 7;row 0;row 1;row 2;mud 2 4 6;slack 0;";
    /** A full ROW of like MEN, one alone, one in camp. */
    private static final String FULL =
        "beats 4;man 1 1;man 1 1;man 1 1;man 1 1;man 9 9;man 3 1;row 0 1 2 3;row 4;slack 4;mud 0;";
    /** 0 drowns 1 beside him, so that the one in camp is NAMED. */
    private static final String DROWNED =
        "beats 4;man 1 2;man 3 1;man 8 1;man 2 1;row 0;row 1;row 2;slack 0;hears others<sum;";
    /** A loud one and one who is too still to be heard. */
    private static final String DUEL = "beats 4;man 3 5;man 12 2;man 0 1;row 0;row 1;mud 2;slack 0;";
    private static final String SEVEN =
        "man 1 9;man 2 9;man 4 9;man 8 9;man 16 9;man 32 9;man 64 9;row 0;row 1;row 2;row 3;row 4;row 5;row 6;";

    public static void main(String[] args) {
        newObject();
        counts();
        menAndRows();
        nights();
        put();
        heelLoudChange();
        undo();
        emptyRow();
        then();
        honourFirstMostOften();
        once();
        mistakenUnsung();
        farNearest();
        apartTread();
        passesHidden();
        toSock();
        review();
        seeForget();
        limpedNext();
        byMud();
        game();
        reviews();
        nextToAlike();
        lostMates();
        stepChain();
        spoilt();
        reform();
        swapLoudest();
        runRarest();
        image();
        wrongMenAndRows();
        Due.end();
    }

    private static void newObject() {
        NightMarch x = new NightMarch();
        int[] counts = {8, 0, 0, 2, 0, 2, 0, 0, 0, 0, 0, 0, 0, 0, 0};
        for (int i = 0; i < counts.length; i++) {
            Due.same("count " + i + " of a new object", counts[i], x.count(i));
        }
        Due.is("nearest", -1, x::nearest);
        Due.is("tread", -1, () -> x.tread(1));
        Due.is("most", -1, () -> x.most(40));
        Due.is("swap", -1, x::swap);
        Due.is("loudest", -1, x::loudest);
        Due.is("rarest", 0, x::rarest);
        Due.is("step", 0, x::step);
        Due.is("review", 0, () -> x.review(-1));
        Due.is("a place of it", Due.NO_SUCH, () -> x.review(0));
        Due.is("limped", 0, () -> x.limped(0));
        Due.is("the first", -1, () -> x.limped(1));
        Due.is("without", 1, () -> x.limped(2));
        Due.is("next", -1, () -> x.next(0));
        Due.is("how many", 0, () -> x.next(1));
        Due.is("reviews", 0, () -> x.reviews(3, 40, 0));
        Due.is("mistaken in them", 0, () -> x.reviews(3, 40, 1));
        Due.is("the man with most", -1, () -> x.reviews(3, 40, 2));
        Due.is("20 nights", 20, () -> x.nights(20));
        Due.is("undone", 0, x::undo);
        Due.is("the night then", 0, () -> x.count(4));
    }

    private static void counts() {
        NightMarch x = Due.of(PAIR);
        int[] counts = {4, 4, 2, 1, 0, 2, 0, 8, 0, 0, 0, 0, 0, 0, 0};
        for (int i = 0; i < counts.length; i++) {
            Due.same("count " + i, counts[i], x.count(i));
        }
        Due.is("count 15", Due.NO_SUCH, () -> x.count(15));
        Due.is("count -1", Due.NO_SUCH, () -> x.count(-1));
        NightMarch y = Due.of("beats 4;man 1 3;man 1 4;man 2 5;man 3 1;row 0;row 1;row 2;row 3;");
        Due.is("in step: the first two", 1, () -> y.count(8));
        y.loud(3, 3);
        y.heel(3, 1);
        Due.is("in step: three of four", 3, () -> y.count(8));
        y.put(2, 0);
        y.nights(3);
        y.see(0, 1, 0, true);
        Due.is("acts", 4, () -> y.count(9));
        Due.is("seen", 1, () -> y.count(10));
        Due.is("honour of all: 4 rows, 3 nights", 12, () -> y.count(6));
        y.put(1, -1);
        Due.is("in camp", 2, () -> y.count(7));
    }

    private static void menAndRows() {
        NightMarch x = Due.of(PAIR);
        int[][] men = {{5, 3, 0, 0}, {10, 4, 0, 0}, {3, 2, 0, 1}, {15, 1, 0, -1}};
        int[][] rows = {{3, 15, 3}, {4, 0, -1}};
        for (int man = 0; man < 4; man++) {
            for (int what = 0; what < 4; what++) {
                Due.same("man " + man + " " + what, men[man][what], x.man(man, what));
            }
        }
        for (int row = 0; row < 2; row++) {
            for (int what = 0; what < 3; what++) {
                Due.same("row " + row + " " + what, rows[row][what], x.row(row, what));
            }
        }
        Due.is("man what", Due.NO_SUCH, () -> x.man(0, 4));
        Due.is("man what", Due.NO_SUCH, () -> x.man(0, -1));
        Due.is("row what", Due.NO_SUCH, () -> x.row(0, 3));
        Due.is("row what", Due.NO_SUCH, () -> x.row(0, -1));
        x.nights(1);
        Due.is("honour of the one in camp", 1, () -> x.man(3, 2));
        Due.is("his row goes behind", 1, () -> x.man(0, 3));
        Due.is("the last row is the first", 4, () -> x.row(0, 0));
        NightMarch y = Due.of("beats 4;man 12 1;man 3 1;man 6 1;man 5 9;row 3;slack 2;");
        Due.is("the nearest", 3, () -> y.row(0, 2));
        y.heel(1, 1);
        y.heel(1, 2);
        Due.is("of like ones the least", 1, () -> y.row(0, 2));
    }

    private static void nights() {
        NightMarch x = Due.of(THREE);
        Due.is("nights", 1, () -> x.nights(1));
        Due.is("honour of all", 3, () -> x.count(6));
        Due.is("row", 2, () -> x.row(0, 0));
        Due.is("row", 1, () -> x.row(2, 0));
        Due.is("nights", 3, () -> x.nights(2));
        Due.is("honour", 1, () -> x.man(0, 2));
        Due.is("honour", 2, () -> x.man(1, 2));
        Due.is("honour", 3, () -> x.man(2, 2));
        Due.is("acts", 2, () -> x.count(9));
        Due.is("no nights", -1, () -> x.nights(0));
        Due.is("below 0", -1, () -> x.nights(-1));
        Due.is("too many", -1, () -> x.nights(21));
        Due.is("far too many", -1, () -> x.nights(Integer.MAX_VALUE));
        Due.is("refused", 4, () -> x.count(13));
        Due.is("acts", 2, () -> x.count(9));
        for (int night = 23; night <= 983; night += 20) {
            Due.same("night", night, x.nights(20));
        }
        Due.is("honour is 99 at most", 99, () -> x.man(2, 2));
        Due.is("honour is 99 at most", 297, () -> x.count(6));
        Due.is("above 999", -1, () -> x.nights(17));
        Due.is("the last night", 999, () -> x.nights(16));
        Due.is("above 999", -1, () -> x.nights(1));
        Due.is("refused", 6, () -> x.count(13));
        Due.is("mud of night 999", 2, () -> x.count(5));
    }

    private static void put() {
        NightMarch x = Due.of(FULL);
        Due.is("put from camp", -1, () -> x.put(5, 1));
        Due.is("in the row", 48, () -> x.row(1, 0));
        Due.is("put in another row", -2, () -> x.put(5, 0));
        Due.is("there he is", -2, () -> x.put(5, 1));
        Due.is("put in camp", 0, () -> x.put(0, -1));
        Due.is("in camp he is", -2, () -> x.put(0, -1));
        Due.is("there is room", 1, () -> x.put(5, 0));
        Due.is("full again", -2, () -> x.put(4, 0));
        Due.is("one of the four", -2, () -> x.put(1, 0));
        Due.is("refused", 5, () -> x.count(13));
        Due.is("acts", 3, () -> x.count(9));
        Due.is("no such man", Due.NO_SUCH, () -> x.put(6, 0));
        Due.is("no such row", Due.NO_SUCH, () -> x.put(1, 2));
        Due.is("no such row", Due.NO_SUCH, () -> x.put(1, -2));
        Due.is("refused", 5, () -> x.count(13));
        Due.is("in camp", 1, () -> x.count(7));
    }

    private static void heelLoudChange() {
        NightMarch x = Due.of(PAIR);
        Due.is("heel", 4, () -> x.heel(0, 0));
        Due.is("heel", 5, () -> x.heel(0, 0));
        Due.is("heel at the last beat", 13, () -> x.heel(0, 3));
        Due.is("no such beat", Due.NO_SUCH, () -> x.heel(0, 4));
        Due.is("no such beat", Due.NO_SUCH, () -> x.heel(0, -1));
        Due.is("loud", 3, () -> x.loud(0, 9));
        Due.is("loud", 9, () -> x.loud(0, 1));
        Due.is("loud as it is", 1, () -> x.loud(0, 1));
        Due.is("acts", 6, () -> x.count(9));
        Due.is("loud 0", -1, () -> x.loud(0, 0));
        Due.is("loud 10", -1, () -> x.loud(0, 10));
        Due.isTrue("change", x.change(1, 0));
        Due.is("row", 3, () -> x.row(1, 0));
        Due.is("no change", 0, () -> x.change(1, 1) ? 1 : 0);
        Due.is("refused", 3, () -> x.count(13));
        Due.is("no such row", Due.NO_SUCH, () -> x.change(0, 2) ? 1 : 0);
        Due.is("no such row", Due.NO_SUCH, () -> x.change(2, 2) ? 1 : 0);
        Due.is("no such row", Due.NO_SUCH, () -> x.change(-1, 0) ? 1 : 0);
        Due.is("acts", 7, () -> x.count(9));
    }

    private static void undo() {
        NightMarch x = Due.of(THREE);
        Due.is("nothing to undo", -1, x::undo);
        Due.is("which is no refusal", 0, () -> x.count(13));
        x.nights(4);
        x.put(0, 1);
        x.heel(1, 3);
        x.loud(2, 1);
        x.change(0, 2);
        Due.is("change undone", 4, x::undo);
        Due.is("row", 2, () -> x.row(0, 0));
        Due.is("loud undone", 3, x::undo);
        Due.is("loud", 7, () -> x.man(2, 1));
        Due.is("heel undone", 2, x::undo);
        Due.is("tread", 2, () -> x.man(1, 0));
        Due.is("put undone", 1, x::undo);
        Due.is("row", 2, () -> x.man(0, 3));
        Due.is("row", 4, () -> x.row(1, 0));
        Due.is("nights undone", 0, x::undo);
        Due.is("night", 0, () -> x.count(4));
        Due.is("honour", 0, () -> x.count(6));
        Due.is("row of 0", 0, () -> x.man(0, 3));
        Due.is("row of 2", 2, () -> x.man(2, 3));
        for (int i = 0; i < 45; i++) {
            x.heel(0, i % 4);
        }
        Due.is("40 are kept", 40, () -> x.count(9));
        for (int left = 39; left >= 0; left--) {
            Due.same("undone", left, x.undo());
        }
        Due.is("nothing left", -1, x::undo);
        Due.is("the first five stay", 1 ^ 1 ^ 2 ^ 4 ^ 8 ^ 1, () -> x.man(0, 0));
        for (int i = 0; i < 6; i++) {
            x.nights(20);
        }
        Due.is("honour stops", 99, () -> x.man(2, 2));
        x.undo();
        x.undo();
        Due.is("honour of 80 nights", 80, () -> x.man(2, 2));
        undoBeyond();
    }

    /** More ACTS than are kept, of all kinds, so that each kept one has to be taken back as it was. */
    private static void undoBeyond() {
        NightMarch x = Due.of(THREE);
        int[][] was = new int[47][];
        for (int i = 0; i < 47; i++) {
            was[i] = whole(x);
            switch (i % 5) {
                case 0: x.nights(1 + i % 3); break;
                case 1: x.heel(i % 3, i % 4); break;
                case 2: x.loud(i % 3, 1 + i % 9); break;
                case 3: x.change(i % 3, (i + 1) % 3); break;
                default: Due.isTrue("put", x.put(i % 3, (x.man(i % 3, 3) + 2) % 4 - 1) > -2);
            }
        }
        x.image();
        for (int round = 0; round < 2; round++) {
            for (int i = 46; i >= 7; i--) {
                Due.same("left", i - 7, x.undo());
                Due.isTrue("act " + i + " undone", java.util.Arrays.equals(was[i], whole(x)));
            }
            Due.is("no more are kept", -1, x::undo);
            Due.isTrue("restored", x.restore());
            Due.is("all 40 of them", 40, () -> x.count(9));
        }
    }

    private static int[] whole(NightMarch x) {
        int[] all = new int[13];
        for (int i = 0; i < 12; i++) {
            all[i] = x.man(i / 4, i % 4);
        }
        all[12] = x.count(4);
        return all;
    }

    private static void emptyRow() {
        NightMarch x = Due.of("beats 4;man 1 3;man 2 3;man 0 1;row 0;row 1;mud 2;slack 0;");
        x.put(0, -1);
        Due.is("rows", 2, () -> x.count(2));
        Due.is("nothing is heard", 0, () -> x.row(0, 1));
        Due.is("whom that is like", 2, () -> x.row(0, 2));
        NightMarch y = Due.of("beats 4;man 1 3;man 2 3;row 0;row 1;hears sum+others;");
        y.put(0, -1);
        Due.is("nothing of its own is heard", 2, () -> y.row(0, 1));
        NightMarch z = Due.of("beats 4;man 1 3;row 0;hears many=0;");
        z.put(0, -1);
        Due.is("none abreast", 15, () -> z.row(0, 1));
    }

    private static void then() {
        NightMarch x = Due.of(THREE);
        int[][] heard = {{1, 2, 4}, {2, 4, 0}, {4, 0, 0}, {1, 2, 4}};
        int[][] named = {{0, 1, 2}, {1, 2, -1}, {2, -1, -1}, {0, 1, 2}};
        for (int night = 0; night < 4; night++) {
            for (int row = 0; row < 3; row++) {
                Due.same("then " + row + " " + night, heard[night][row], x.then(row, night, 0));
                Due.same("then " + row + " " + night, named[night][row], x.then(row, night, 1));
            }
        }
        Due.is("in 40 nights", 4, () -> x.then(1, 40, 0));
        Due.is("in 41", Due.ILLEGAL, () -> x.then(1, 41, 0));
        Due.is("in -1", Due.ILLEGAL, () -> x.then(1, -1, 0));
        Due.is("what", Due.NO_SUCH, () -> x.then(1, 41, 2));
        Due.is("what", Due.NO_SUCH, () -> x.then(1, 1, -1));
        Due.is("row", Due.NO_SUCH, () -> x.then(3, 41, 0));
        Due.is("nothing went by", 0, () -> x.count(4));
    }

    private static void honourFirstMostOften() {
        NightMarch x = Due.of(THREE);
        int[][] after = {{0, 0, 0}, {1, 1, 1}, {1, 2, 2}, {1, 2, 3}, {2, 3, 4}};
        for (int nights = 0; nights < 5; nights++) {
            for (int man = 0; man < 3; man++) {
                Due.same("honour " + man + " " + nights, after[nights][man], x.honour(man, nights));
            }
        }
        Due.is("honour in 40", 14, () -> x.honour(0, 40));
        Due.is("honour in 40", 27, () -> x.honour(1, 40));
        Due.is("honour in 41", Due.ILLEGAL, () -> x.honour(1, 41));
        Due.is("honour in -1", Due.ILLEGAL, () -> x.honour(1, -1));
        Due.is("honour of none", Due.NO_SUCH, () -> x.honour(3, 41));
        Due.is("most in 1", 0, () -> x.most(1));
        Due.is("most in 2", 1, () -> x.most(2));
        Due.is("most in 3", 2, () -> x.most(3));
        Due.is("most in 40", 2, () -> x.most(40));
        Due.is("most in 0", Due.ILLEGAL, () -> x.most(0));
        Due.is("most in 41", Due.ILLEGAL, () -> x.most(41));
        Due.is("nobody in 1", 0, () -> x.often(1, 0));
        Due.is("nobody in 3", 3, () -> x.often(3, 0));
        Due.is("nobody in 40", 39, () -> x.often(40, 0));
        Due.is("right in 3", 6, () -> x.often(3, 1));
        Due.is("right in 40", 81, () -> x.often(40, 1));
        Due.is("often in 0", Due.ILLEGAL, () -> x.often(0, 1));
        Due.is("often in 41", Due.ILLEGAL, () -> x.often(41, 0));
        Due.is("often what", Due.NO_SUCH, () -> x.often(41, 2));
        Due.is("often what", Due.NO_SUCH, () -> x.often(1, -1));
        Due.is("first", 1, () -> x.first(0));
        x.nights(1);
        Due.is("first", 3, () -> x.first(0));
        Due.is("honour goes on from what it is", 3, () -> x.honour(1, 3));
        NightMarch y = Due.of(PAIR);
        Due.is("never", -1, () -> y.first(0));
        Due.is("mistaken ones are not right", 0, () -> y.often(3, 1));
        Due.is("nobody", 3, () -> y.often(3, 0));
    }

    /** 5 is heard only in front of all, which is so in every seventh NIGHT, and in every eighth NIGHT. */
    private static void once() {
        NightMarch x = Due.of("man 4 1;man 8 1;man 16 1;man 32 1;man 3 1;man 1 1;man 64 1;row 0;row 1;row 2;row 3;row 4;"
            + "row 5;row 6;slack 0;mud 1 0 0 0 0 0 0 0;hears sum and mud=1 and others=0;");
        Due.is("first in 41 nights", -1, () -> x.first(5));
        Due.is("unsung in 40", 32, () -> x.unsung(40) & 32);
        Due.is("then in 40", 1, () -> x.then(0, 40, 0));
        x.nights(1);
        Due.is("first in 40 nights", 40, () -> x.first(5));
        Due.is("unsung in 39", 32, () -> x.unsung(39) & 32);
        Due.is("not in 40", 0, () -> x.unsung(40) & 32);
        Due.is("honour in 39", 0, () -> x.honour(5, 39));
        Due.is("honour in 40", 1, () -> x.honour(5, 40));
    }

    private static void mistakenUnsung() {
        NightMarch x = Due.of(PAIR);
        Due.is("mistaken", 1, () -> x.mistaken(1));
        Due.is("mistaken", 2, () -> x.mistaken(2));
        Due.is("mistaken", 1, () -> x.mistaken(39));
        Due.is("mistaken", 2, () -> x.mistaken(40));
        Due.is("mistaken in 0", Due.ILLEGAL, () -> x.mistaken(0));
        Due.is("mistaken in 41", Due.ILLEGAL, () -> x.mistaken(41));
        Due.is("unsung", 7, () -> x.unsung(1));
        Due.is("unsung", 7, () -> x.unsung(40));
        Due.is("unsung in 0", Due.ILLEGAL, () -> x.unsung(0));
        Due.is("unsung in 41", Due.ILLEGAL, () -> x.unsung(41));
        NightMarch y = Due.of(THREE);
        y.nights(1);
        Due.is("unsung in the second", 1, () -> y.unsung(1));
        Due.is("unsung in two", 1, () -> y.unsung(2));
        Due.is("unsung in three", 0, () -> y.unsung(3));
        Due.is("nobody is no mistake", 0, () -> y.mistaken(1));
    }

    private static void farNearest() {
        NightMarch x = Due.of(PAIR);
        Due.is("far", 4, () -> x.far(0, 1));
        Due.is("far", 2, () -> x.far(3, 0));
        Due.is("far from himself", 0, () -> x.far(2, 2));
        Due.is("the first of like couples", 2, x::nearest);
        x.heel(3, 0);
        Due.is("the nearest", 13, x::nearest);
        NightMarch y = Due.of("man 1 1;");
        Due.is("of one", -1, y::nearest);
        NightMarch z = Due.of("beats 12;man 0 1;man 4095 1;");
        Due.is("far by 12", 12, () -> z.far(1, 0));
        Due.is("the nearest all the same", 1, z::nearest);
    }

    private static void apartTread() {
        NightMarch x = Due.of(PAIR);
        Due.is("apart by 1", 15, () -> x.apart(1));
        Due.is("apart by 2", 15, () -> x.apart(2));
        Due.is("apart by 3", 3, () -> x.apart(3));
        Due.is("apart by 5", 1, () -> x.apart(5));
        Due.is("apart by 12", 1, () -> x.apart(12));
        Due.is("apart by 0", Due.ILLEGAL, () -> x.apart(0));
        Due.is("apart by 13", Due.ILLEGAL, () -> x.apart(13));
        Due.is("how far", 2, () -> x.tread(0));
        Due.is("the least such", 0, () -> x.tread(1));
        Due.is("tread what", Due.NO_SUCH, () -> x.tread(2));
        Due.is("tread what", Due.NO_SUCH, () -> x.tread(-1));
        NightMarch y = Due.of("beats 12;man 0 1;man 7 1;man 4088 1;");
        Due.is("how far", 6, () -> y.tread(0));
        Due.is("the greatest set", 5, () -> y.apart(4));
        // With a of the last nine BEATS and b of the first three it is far by a + b, a + 3 - b and 9 - a + b: the least
        // of these is 6 with a = 6, b = 3 and with a = 5, b = 2.
        Due.is("the least such", 0xF8 + 3, () -> y.tread(1));
        NightMarch z = Due.of("beats 5;man 0 1;");
        Due.is("farthest", 5, () -> z.tread(0));
        Due.is("all beats", 31, () -> z.tread(1));
    }

    private static void passesHidden() {
        NightMarch x = Due.of(FULL);
        Due.is("not in a row with four others", -1, () -> x.passes(5, 0));
        Due.is("passes", 1, () -> x.passes(5, 4));
        Due.is("passes in another row", 1, () -> x.passes(0, 4));
        Due.is("staying there", 0, () -> x.passes(1, 0));
        Due.is("for himself", -1, () -> x.passes(0, 0));
        Due.is("no such man", Due.NO_SUCH, () -> x.passes(0, 6));
        Due.is("no such man", Due.NO_SUCH, () -> x.passes(6, 6));
        Due.is("hidden", 2, () -> x.hidden(0));
        Due.is("hidden", 3, () -> x.hidden(1));
        Due.is("hidden", 2, () -> x.hidden(5));
        Due.is("hidden", 0, () -> x.hidden(4));
        NightMarch y = Due.of(PAIR);
        Due.is("passes", 0, () -> y.passes(2, 3));
        Due.is("for the one in camp", 0, () -> y.passes(1, 3));
        Due.is("hidden beside one, not beside the other", 1, () -> y.hidden(0));
        NightMarch z = Due.of(DUEL);
        z.heel(2, 0);
        Due.is("nobody counts as hidden", 3, () -> z.hidden(1));
    }

    private static void toSock() {
        NightMarch x = Due.of(DUEL);
        Due.is("to sock", 2, () -> x.toSock(0));
        Due.is("to sock", 2, () -> x.toSock(1));
        Due.is("in camp", -1, () -> x.toSock(2));
        NightMarch y = Due.of(PAIR);
        Due.is("never named", 9, () -> y.toSock(0));
        NightMarch z = Due.of("man 1 1;row 0;mud 0;slack 0;");
        Due.is("always named", -1, () -> z.toSock(0));
    }

    private static void review() {
        NightMarch x = Due.of(DROWNED);
        Due.is("right now", 2, () -> x.often(1, 1));
        Due.is("review", 3, () -> x.review(-1));
        Due.is("place 0", 0, () -> x.review(0));
        Due.is("place 1", 2, () -> x.review(1));
        Due.is("place 2", 1, () -> x.review(2));
        Due.is("no such place", Due.NO_SUCH, () -> x.review(3));
        Due.is("no such place", Due.NO_SUCH, () -> x.review(-2));
        Due.is("the rows stay", 1, () -> x.row(0, 0));
        NightMarch y = Due.of(SEVEN);
        Due.is("more than 6", -2, () -> y.review(-1));
        Due.is("more than 6", -2, () -> y.review(6));
        Due.is("no such place", Due.NO_SUCH, () -> y.review(7));
        NightMarch z = Due.of(SEVEN.replace("row 6;", ""));
        Due.is("six", 6, () -> z.review(-1));
        for (int i = 0; i < 6; i++) {
            Due.same("the first order", i, z.review(i));
        }
    }

    private static void seeForget() {
        NightMarch x = Due.of(PAIR);
        Due.is("see", 1, () -> x.see(0, 1, 0, true));
        Due.is("night 0", -1, () -> x.see(0, 0, 0, true));
        Due.is("night 13", -1, () -> x.see(0, 13, 0, true));
        Due.is("night 12", 2, () -> x.see(1, 12, 3, false));
        for (int i = 3; i <= 8; i++) {
            Due.same("see", i, x.see(0, 1, 0, true));
        }
        Due.is("there are 8", -1, () -> x.see(0, 1, 0, true));
        Due.is("no such row", Due.NO_SUCH, () -> x.see(2, 13, 0, true));
        Due.is("no such row", Due.NO_SUCH, () -> x.see(-1, 1, 0, true));
        Due.is("no such beat", Due.NO_SUCH, () -> x.see(0, 1, 4, true));
        Due.is("no such beat", Due.NO_SUCH, () -> x.see(0, 1, -1, true));
        Due.is("refused", 3, () -> x.count(14));
        Due.is("seen", 8, () -> x.count(10));
        x.forget();
        Due.is("forgotten", 0, () -> x.count(10));
        Due.is("see again", 1, () -> x.see(0, 1, 0, true));
    }

    private static void limpedNext() {
        NightMarch x = Due.of(PAIR);
        Due.is("all may have", 16, () -> x.limped(0));
        x.see(0, 1, 3, true);
        Due.is("all but 1 at 3", 15, () -> x.limped(0));
        Due.is("the first", 0, () -> x.limped(1));
        Due.is("without", 1, () -> x.limped(2));
        Due.is("next row", 0, () -> x.next(0));
        Due.is("how many", 4, () -> x.next(1));
        x.see(0, 2, 0, true);
        Due.is("none", 0, () -> x.limped(0));
        Due.is("none", -1, () -> x.limped(1));
        Due.is("not without", 0, () -> x.limped(2));
        Due.is("no row", -1, () -> x.next(0));
        Due.is("no row", 0, () -> x.next(1));
        NightMarch y = Due.of(THREE);
        y.see(0, 1, 0, false);
        Due.is("he himself", 1, () -> y.limped(0));
        Due.is("he himself", 0, () -> y.limped(1));
        y.forget();
        y.see(1, 1, 3, true);
        Due.is("the second row's", 103, () -> y.limped(1));
        Due.is("of like ones the first", 0, () -> y.next(0));
        Due.is("one sound", 1, () -> y.next(1));
        y.forget();
        y.see(1, 2, 0, true);
        Due.is("in the second night it is 2's", 200, () -> y.limped(1));
        Due.is("his alone", 1, () -> y.limped(0));
        y.forget();
        y.see(1, 3, 0, true);
        Due.is("in the third night the mud is too deep", 0, () -> y.limped(0));
        y.forget();
        y.see(2, 1, 2, true);
        // The last ROW is heard as it is, or with one of three BEATS more.
        Due.is("row 2 by 11 of 12", 11, () -> y.limped(0));
        Due.is("rows 0 and 1 have five sounds", 0, () -> y.next(0));
        Due.is("five sounds", 5, () -> y.next(1));
        Due.is("limped what", Due.NO_SUCH, () -> y.limped(3));
        Due.is("limped what", Due.NO_SUCH, () -> y.limped(-1));
        Due.is("next what", Due.NO_SUCH, () -> y.next(2));
        Due.is("next what", Due.NO_SUCH, () -> y.next(-1));
    }

    private static void byMud() {
        NightMarch x = Due.of(THREE);
        Due.is("by mud", 7, () -> x.byMud(0, 1, 3));
        Due.is("by mud", 100, () -> x.byMud(0, 2, 5));
        Due.is("by mud", 350000, () -> x.byMud(2, 5, 3));
        Due.is("no mud", 500000, () -> x.byMud(2, 5, 0));
        Due.is("all mud", 0, () -> x.byMud(2, 5, 10));
        Due.is("nights", Due.ILLEGAL, () -> x.byMud(0, 0, 3));
        Due.is("nights", Due.ILLEGAL, () -> x.byMud(0, 6, 3));
        Due.is("tenths", Due.ILLEGAL, () -> x.byMud(0, 1, -1));
        Due.is("tenths", Due.ILLEGAL, () -> x.byMud(0, 1, 11));
        Due.is("man", Due.NO_SUCH, () -> x.byMud(3, 0, 11));
        NightMarch y = Due.of(DUEL);
        Due.is("each row counts", 160, () -> y.byMud(2, 2, 4));
        NightMarch z = Due.of("beats 4;man 1 9;man 2 9;row 0;row 1;mud 4;slack 0;hears sum and mud;");
        Due.is("by the rule", 1500, () -> z.byMud(1, 3, 5));
    }

    private static void game() {
        NightMarch x = Due.of(DUEL);
        Due.is("rests", 1, () -> x.game(0, 1, 0));
        Due.is("the other one stamps", 1, () -> x.game(0, 1, 1));
        Due.is("the first one stamps", 10, () -> x.game(1, 0, 1));
        Due.is("what", Due.NO_SUCH, () -> x.game(0, 0, 2));
        Due.is("what", Due.NO_SUCH, () -> x.game(0, 1, -1));
        Due.is("man", Due.NO_SUCH, () -> x.game(0, 3, 0));
        Due.is("both are one", Due.ILLEGAL, () -> x.game(0, 0, 0));
        Due.is("in camp", Due.ILLEGAL, () -> x.game(0, 2, 0));
        Due.is("in camp", Due.ILLEGAL, () -> x.game(2, 0, 0));
        Due.is("loud stays", 2, () -> x.man(1, 1));
        NightMarch y = Due.of(PAIR);
        Due.is("neither", 0, () -> y.game(0, 1, 1));
        String two = "beats 4;man 1 1;man 2 1;row 0;row 1;slack 0;mud 9 9 9 9 9 ";
        NightMarch sixth = Due.of(two + "8;");
        Due.is("stamping gains 1 in the sixth night: all rest", 4, () -> sixth.game(0, 1, 0));
        Due.is("the first", 0, () -> sixth.game(0, 1, 1));
        NightMarch seventh = Due.of(two + "9 8;");
        Due.is("the seventh night doesn't count", 1, () -> seventh.game(0, 1, 0));
        Due.is("neither", 0, () -> seventh.game(0, 1, 1));
        // Both are too still, and are heard only if the other one is not: who stamps alone gains 6 by 1.
        NightMarch z = Due.of("beats 4;man 1 1;man 2 1;row 0;row 1;mud 2;slack 0;hears mud<sum-others*9;");
        Due.is("both stamp", 11, () -> z.game(0, 1, 1));
        Due.is("that alone rests", 1, () -> z.game(0, 1, 0));
    }

    private static void reviews() {
        NightMarch x = Due.of(DUEL);
        Due.is("no nights", 0, () -> x.reviews(7, 0, 0));
        Due.is("no nights", 0, () -> x.reviews(7, 0, 1));
        Due.is("no nights", 0, () -> x.reviews(7, 0, 2));
        // Seed 1 draws 16838 of 3 men: 2; 5758 of 3: 1, his LOUD 10113 of 9 and 1: 7; MUD 17515 of 10: 5.
        // LOUD 5 and 2 aren't heard: 2, whose TREAD is none, is NAMED for both ROWS.
        Due.is("honour", 2, () -> x.reviews(1, 1, 0));
        Due.is("mistaken", 2, () -> x.reviews(1, 1, 1));
        Due.is("the man", 2, () -> x.reviews(1, 1, 2));
        // Seed 0 draws 0 of 3 men: 0; 21468 of 3: 0, his HEEL at 9988 of 4: 0; MUD 22117 of 10: 7: likewise.
        Due.is("honour", 2, () -> x.reviews(0, 1, 0));
        Due.is("honour stays", 0, () -> x.count(6));
        Due.is("tread stays", 3, () -> x.man(0, 0));
        Due.is("what", Due.NO_SUCH, () -> x.reviews(0, 41, 3));
        Due.is("what", Due.NO_SUCH, () -> x.reviews(0, 1, -1));
        Due.is("n", Due.ILLEGAL, () -> x.reviews(0, 41, 0));
        Due.is("n", Due.ILLEGAL, () -> x.reviews(0, -1, 0));
        x.nights(2);
        Due.is("honour goes on", 6, () -> x.reviews(0, 1, 0));
    }

    private static void nextToAlike() {
        NightMarch x = Due.of(PAIR);
        Due.is("next to", 0, () -> x.nextTo(5));
        Due.is("next to", 0, () -> x.nextTo(7));
        Due.is("next to", 1, () -> x.nextTo(14));
        Due.is("nobody", -1, () -> x.nextTo(0));
        Due.is("alike", 13, () -> x.alike(7));
        Due.is("beyond slack", 7, () -> x.alike(0));
        Due.is("no bits", Due.ILLEGAL, () -> x.nextTo(16));
        Due.is("no bits", Due.ILLEGAL, () -> x.nextTo(-1));
        Due.is("no bits", Due.ILLEGAL, () -> x.alike(16));
        Due.is("no bits", Due.ILLEGAL, () -> x.alike(Integer.MIN_VALUE));
        NightMarch y = new NightMarch();
        Due.is("without men", 0, () -> y.alike(255));
        Due.is("without men", -1, () -> y.nextTo(0));
    }

    private static void lostMates() {
        NightMarch x = Due.of(PAIR);
        int[] lost = {0, 0, 3, 15};
        int[] mates = {2, 1, 0, 0};
        for (int man = 0; man < 4; man++) {
            Due.same("lost " + man, lost[man], x.lost(man));
            Due.same("mates " + man, mates[man], x.mates(man));
        }
        NightMarch y = Due.of(FULL);
        Due.is("mates", 13, () -> y.mates(1));
    }

    private static void stepChain() {
        NightMarch x = Due.of(PAIR);
        Due.is("step", 8, x::step);
        x.heel(3, 0);
        Due.is("of as few the least", 3, x::step);
        Due.is("chain", 0, () -> x.chain(0, 0, 1));
        Due.is("chain", 1, () -> x.chain(3, 1, 1));
        Due.is("chain", 2, () -> x.chain(2, 3, 2));
        Due.is("none", -1, () -> x.chain(0, 1, 1));
        Due.is("by 12", 1, () -> x.chain(0, 1, 12));
        Due.is("by 0", Due.ILLEGAL, () -> x.chain(0, 1, 0));
        Due.is("by 13", Due.ILLEGAL, () -> x.chain(0, 1, 13));
        Due.is("man", Due.NO_SUCH, () -> x.chain(4, 0, 0));
        Due.is("man", Due.NO_SUCH, () -> x.chain(0, -1, 1));
        NightMarch y = Due.of("man 0 1;man 1 1;man 3 1;man 7 1;man 15 1;man 31 1;man 63 1;man 127 1;");
        Due.is("through all", 7, () -> y.chain(0, 7, 1));
        Due.is("back", 4, () -> y.chain(7, 0, 2));
        Due.is("the last has all", 128, y::step);
        NightMarch z = Due.of("man 0 1;man 0 2;");
        Due.is("no beats, no men", 0, z::step);
    }

    private static void spoilt() {
        NightMarch x = Due.of(PAIR);
        int[] spoilt = {1, 1, 0, 0};
        for (int man = 0; man < 4; man++) {
            Due.same("spoilt " + man, spoilt[man], x.spoilt(man));
        }
        NightMarch y = Due.of(DROWNED);
        Due.is("spoilt", 0, () -> y.spoilt(0));
        Due.is("fewer", -1, () -> y.spoilt(2));
        Due.is("he stays", 2, () -> y.man(2, 3));
    }

    private static void reform() {
        NightMarch x = Due.of(PAIR);
        Due.is("reform", 2, () -> x.reform(0, 0));
        Due.is("of like ones the least", 3, () -> x.reform(0, 1));
        Due.is("in camp", -1, () -> x.reform(3, 0));
        Due.is("in camp", -1, () -> x.reform(3, 1));
        Due.is("what", Due.NO_SUCH, () -> x.reform(3, 2));
        Due.is("what", Due.NO_SUCH, () -> x.reform(0, -1));
        Due.is("tread stays", 5, () -> x.man(0, 0));
        NightMarch y = Due.of(THREE);
        Due.is("as it is", 0, () -> y.reform(1, 0));
        Due.is("as it is", 2, () -> y.reform(1, 1));
        NightMarch z = Due.of("beats 4;man 8 1;man 15 1;row 1;slack 0;hears beat=3;");
        Due.is("none", -1, () -> z.reform(1, 0));
        Due.is("none", -1, () -> z.reform(1, 1));
        NightMarch all = Due.of("beats 12;man 0 1;row 0;slack 0;hears 1;");
        Due.is("every beat", 12, () -> all.reform(0, 0));
        Due.is("all beats", 4095, () -> all.reform(0, 1));
    }

    private static void swapLoudest() {
        NightMarch x = Due.of(DROWNED);
        Due.is("swap", 12, x::swap);
        x.change(1, 2);
        Due.is("no better", -1, x::swap);
        Due.is("loudest", 0, x::loudest);
        x.loud(1, 2);
        Due.is("of like ones the first", 0, x::loudest);
        x.loud(1, 3);
        Due.is("loudest", 2, x::loudest);
        x.put(0, 1);
        Due.is("together", 1, x::loudest);
        NightMarch y = Due.of("man 1 1;row 0;");
        y.put(0, -1);
        Due.is("a row without any", 0, y::loudest);
    }

    private static void runRarest() {
        NightMarch x = Due.of(PAIR);
        int[] runs = {1, 1, 2, 4};
        for (int man = 0; man < 4; man++) {
            Due.same("run " + man, runs[man], x.run(man));
        }
        Due.is("rarest", 2, x::rarest);
        x.heel(2, 2);
        x.heel(2, 0);
        Due.is("rarest", 0, x::rarest);
        NightMarch y = Due.of("beats 12;man 0 1;man 4095 1;man 3534 1;");
        Due.is("no beats", 0, () -> y.run(0));
        Due.is("all beats", 12, () -> y.run(1));
        Due.is("110111001110", 3, () -> y.run(2));
    }

    private static void image() {
        NightMarch x = Due.of(THREE);
        Due.isTrue("none", !x.restore());
        x.nights(1);
        x.see(0, 1, 0, true);
        x.image();
        x.nights(3);
        x.heel(0, 3);
        x.loud(1, 9);
        x.put(2, 0);
        x.change(0, 1);
        x.forget();
        x.see(1, 1, 1, false);
        x.see(1, 1, 2, false);
        x.nights(0);
        Due.isTrue("restored", x.restore());
        Due.is("night", 1, () -> x.count(4));
        Due.is("tread", 1, () -> x.man(0, 0));
        Due.is("loud", 5, () -> x.man(1, 1));
        Due.is("honour", 3, () -> x.count(6));
        Due.is("row", 1, () -> x.man(2, 3));
        Due.is("acts", 1, () -> x.count(9));
        Due.is("seen", 1, () -> x.count(10));
        Due.is("what is seen", 1, () -> x.limped(0));
        Due.is("status is not in it", 1, () -> x.count(13));
        Due.is("undo", 0, x::undo);
        Due.is("honour", 0, () -> x.count(6));
        Due.isTrue("restored again", x.restore());
        Due.is("acts", 1, () -> x.count(9));
        x.undo();
        x.image();
        x.nights(2);
        Due.isTrue("another one in its place", x.restore());
        Due.is("night", 0, () -> x.count(4));
    }

    private static void wrongMenAndRows() {
        NightMarch x = Due.of(PAIR);
        for (int bad : new int[] {-1, 4, Integer.MIN_VALUE, Integer.MAX_VALUE}) {
            Due.is("man", Due.NO_SUCH, () -> x.man(bad, 0));
            Due.is("put", Due.NO_SUCH, () -> x.put(bad, 0));
            Due.is("heel", Due.NO_SUCH, () -> x.heel(bad, 0));
            Due.is("loud", Due.NO_SUCH, () -> x.loud(bad, 0));
            Due.is("honour", Due.NO_SUCH, () -> x.honour(bad, 0));
            Due.is("first", Due.NO_SUCH, () -> x.first(bad));
            Due.is("far", Due.NO_SUCH, () -> x.far(bad, 0));
            Due.is("far", Due.NO_SUCH, () -> x.far(0, bad));
            Due.is("passes", Due.NO_SUCH, () -> x.passes(bad, 0));
            Due.is("hidden", Due.NO_SUCH, () -> x.hidden(bad));
            Due.is("toSock", Due.NO_SUCH, () -> x.toSock(bad));
            Due.is("byMud", Due.NO_SUCH, () -> x.byMud(bad, 1, 1));
            Due.is("game", Due.NO_SUCH, () -> x.game(bad, bad, 0));
            Due.is("lost", Due.NO_SUCH, () -> x.lost(bad));
            Due.is("mates", Due.NO_SUCH, () -> x.mates(bad));
            Due.is("chain", Due.NO_SUCH, () -> x.chain(bad, 0, 1));
            Due.is("spoilt", Due.NO_SUCH, () -> x.spoilt(bad));
            Due.is("reform", Due.NO_SUCH, () -> x.reform(bad, 0));
            Due.is("run", Due.NO_SUCH, () -> x.run(bad));
        }
        for (int bad : new int[] {-1, 2, Integer.MIN_VALUE, Integer.MAX_VALUE}) {
            Due.is("row", Due.NO_SUCH, () -> x.row(bad, 0));
            Due.is("change", Due.NO_SUCH, () -> x.change(bad, 0) ? 1 : 0);
            Due.is("change", Due.NO_SUCH, () -> x.change(0, bad) ? 1 : 0);
            Due.is("then", Due.NO_SUCH, () -> x.then(bad, 0, 0));
            Due.is("see", Due.NO_SUCH, () -> x.see(bad, 1, 0, true));
        }
        Due.is("no refusal", 0, () -> x.count(13) + x.count(14));
        Due.is("no acts", 0, () -> x.count(9));
    }
}
