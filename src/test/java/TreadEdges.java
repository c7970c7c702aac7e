/** Boundary cases of beats, treads and rows as they are: promises 34 to 47. */
final class TreadEdges {
    private static final String EIGHT_ROWS = "row 0;row 1;row 2;row 3;row 4;row 5;row 6;row 7;";
    /** Each has a BEAT of his own, and is heard. */
    private static final String OWN = "man 1 9;man 2 9;man 4 9;man 8 9;man 16 9;man 32 9;man 64 9;man 128 9;"
        + EIGHT_ROWS + "slack 0;";

    private TreadEdges() {
    }

    // ---- Promises 34 and 35

    @Edge(promise = 34, says = "NEXT TO; NONE: nobody. IllegalArgumentException: not bits of BEATS.")
    static void nextToBitsThatAreNone() {
        for (int beats = 4; beats <= 12; beats++) {
            NightMarch x = Due.of("beats " + beats + ";man 0 1;man 4095 1;slack 0;");
            Due.within("bits of " + beats, 0, (1 << beats) - 1, Due.ILLEGAL, x::nextTo);
            Due.is("none of them", 0, () -> x.nextTo(0));
            int all = (1 << beats) - 1;
            Due.is("all of them", 1, () -> x.nextTo(all));
            Due.is("all but one", -1, () -> x.nextTo(all - 1));
        }
        Due.is("no MEN", -1, () -> new NightMarch().nextTo(0));
    }

    @Edge(promise = 35, says = "ALIKE, as bits. IllegalArgumentException: not bits of BEATS.")
    static void alikeBitsThatAreNone() {
        for (int beats = 4; beats <= 12; beats++) {
            NightMarch x = Due.of("beats " + beats + ";man 0 1;man 4095 1;");
            Due.within("bits of " + beats, 0, (1 << beats) - 1, Due.ILLEGAL, x::alike);
        }
        Due.is("no MEN", 0, () -> new NightMarch().alike(255));
        Due.is("no MEN", Due.ILLEGAL, () -> new NightMarch().alike(256));
    }

    @Edge(promise = 35, says = "MEN whose TREADS differ from them at as few BEATS as the nearest one's")
    static void alikeTheNearest() {
        NightMarch x = Due.of("beats 4;man 0 1;man 15 1;man 3 1;man 12 1;");
        Due.is("one is the same", 1, () -> x.alike(0));
        Due.is("the same as the second", 2, () -> x.alike(15));
        Due.is("two are FAR by 1", 5, () -> x.alike(1));
        Due.is("all are FAR by 2", 15, () -> x.alike(5));
    }

    @Edge(promise = 35, says = "(bits; SLACK doesn't count)")
    static void alikeBeyondSlack() {
        NightMarch x = Due.of("beats 12;" + "man 0 1;".repeat(8) + "slack 0;");
        Due.is("all of them, FAR by 12", 255, () -> x.alike(4095));
        x.heel(7, 11);
        Due.is("the last one is nearer by one", 128, () -> x.alike(4095));
        Due.is("all but the last one", 127, () -> x.alike(0));
        Due.is("whom nobody would name", -1, () -> x.nextTo(4095));
    }

    // ---- Promises 36 and 37

    @Edge(promise = 36, says = "LOST: BEATS of a MAN's TREAD that aren't HEARD of his ROW now (in camp: all of it), as bits.")
    static void lostOfNoneAndOfAll() {
        NightMarch x = Due.of("beats 12;man 4095 5;man 4095 5;man 0 5;row 0;row 2;mud 4 5;slack 0;");
        Due.is("all is HEARD", 0, () -> x.lost(0));
        Due.is("in camp", 4095, () -> x.lost(1));
        Due.is("no BEATS", 0, () -> x.lost(2));
        x.nights(1);
        Due.is("none is HEARD", 4095, () -> x.lost(0));
        x.heel(1, 11);
        x.heel(1, 0);
        x.put(1, 1);
        Due.is("the first and the last", 2049, () -> x.lost(0));
        Due.is("of the other one all is HEARD", 0, () -> x.lost(1));
        Due.within("man", 0, 2, Due.NO_SUCH, x::lost);
    }

    @Edge(promise = 37, says = "MATES: MEN in his ROW (not himself), as bits.")
    static void matesFrom0To3() {
        NightMarch x = Due.of("man 1 1;".repeat(8) + "row 0 1 6 7;row 2;");
        Due.is("three", 2 + 64 + 128, () -> x.mates(0));
        Due.is("three", 1 + 2 + 64, () -> x.mates(7));
        Due.is("alone", 0, () -> x.mates(2));
        Due.is("in camp", 0, () -> x.mates(3));
        x.put(7, -1);
        Due.is("who is in camp is none", 2 + 64, () -> x.mates(0));
        Due.is("nor has any", 0, () -> x.mates(7));
        Due.within("man", 0, 7, Due.NO_SUCH, x::mates);
    }

    // ---- Promise 38

    @Edge(promise = 38, says = "the fewest MEN whose TREADS together have all BEATS that any has: of as few the least as bits.")
    static void stepFrom0To8Men() {
        Due.is("no MEN", 0, () -> new NightMarch().step());
        NightMarch still = Due.of("man 0 1;".repeat(8));
        Due.is("no BEATS", 0, still::step);
        still.heel(7, 7);
        Due.is("the last one alone", 128, still::step);
        still.heel(3, 7);
        Due.is("of two the least", 8, still::step);
        NightMarch own = Due.of(OWN);
        Due.is("all eight", 255, own::step);
        own.heel(7, 6);
        Due.is("7 has what 6 has", 255 - 64, own::step);
        own.heel(6, 7);
        Due.is("of both the least", 127, own::step);
    }

    // ---- Promise 39

    @Edge(promise = 39, says = "A CHAIN (0 to himself); NONE: none. IllegalArgumentException (behind NoSuchElementException): not 1 to 12.")
    static void chainBy1To12() {
        NightMarch x = Due.of("beats 12;man 0 1;man 4095 1;man 2047 1;");
        Due.within("beats", 1, 12, Due.ILLEGAL, beats -> x.chain(0, 1, beats));
        Due.is("to himself", 0, () -> x.chain(2, 2, 1));
        Due.is("to himself by 0", Due.ILLEGAL, () -> x.chain(2, 2, 0));
        Due.is("to himself by 13", Due.ILLEGAL, () -> x.chain(2, 2, 13));
        Due.within("man", 0, 2, Due.NO_SUCH, man -> x.chain(man, 1, 1));
        Due.within("other", 0, 2, Due.NO_SUCH, man -> x.chain(1, man, 1));
        Due.is("man and beats", Due.NO_SUCH, () -> x.chain(3, 0, 0));
        Due.is("other and beats", Due.NO_SUCH, () -> x.chain(0, -1, 13));
        Due.is("both are none", Due.NO_SUCH, () -> x.chain(3, 3, 1));
    }

    @Edge(promise = 39, says = "the fewest steps, each from one to another of whom TREADS are FAR by so many (1 to 12) or less; none.")
    static void chainOfSoManyOrLess() {
        NightMarch x = Due.of("beats 12;man 0 1;man 4095 1;man 2047 1;");
        Due.is("FAR by 12", 1, () -> x.chain(0, 1, 12));
        Due.is("by 11 over 2", 2, () -> x.chain(0, 1, 11));
        Due.is("by 10 none", -1, () -> x.chain(0, 1, 10));
        Due.is("FAR by 1", 1, () -> x.chain(1, 2, 1));
        NightMarch eight = Due.of("man 0 1;man 1 1;man 3 1;man 7 1;man 15 1;man 31 1;man 63 1;man 127 1;");
        Due.is("over all", 7, () -> eight.chain(0, 7, 1));
        Due.is("back over all", 7, () -> eight.chain(7, 0, 1));
        eight.heel(4, 7);
        Due.is("one is missing", -1, () -> eight.chain(0, 7, 1));
        NightMarch like = Due.of("man 5 1;man 5 1;");
        Due.is("FAR by 0 is less", 1, () -> like.chain(0, 1, 1));
    }

    // ---- Promises 40 and 41

    @Edge(promise = 40, says = "MOST HONOURED; NONE: none. IllegalArgumentException: not 1 to 40.")
    static void mostIn1To40() {
        NightMarch x = Due.of("beats 4;man 1 9;man 2 9;row 1;mud 0 0 0 0 9 9 9 9;slack 0;");
        Due.within("nights", 1, 40, Due.ILLEGAL, x::most);
        Due.is("one", 1, () -> x.most(1));
        Due.is("none without MEN", -1, () -> new NightMarch().most(1));
        Due.is("none without MEN", -1, () -> new NightMarch().most(40));
        Due.is("without MEN", Due.ILLEGAL, () -> new NightMarch().most(41));
        // 0 has 4 HONOUR; then 1 is NAMED in each eighth NIGHT, the 40th among them.
        NightMarch late = Due.of("beats 4;man 2 1;man 2 1;row 0;mud 0 0 0 0 0 0 0 2;slack 0;hears mud=2 and beat=1;");
        late.nights(20);
        late.nights(12);
        late.heel(0, 0);
        Due.is("in 39 both have 4", 0, () -> late.most(39));
        Due.is("in 40 one has 5", 1, () -> late.most(40));
    }

    @Edge(promise = 40, says = "MOST HONOURED: who has most HONOUR behind them (of like ones the least); none.")
    static void mostOfLikeOnesTheLeast() {
        NightMarch x = Due.of(OWN);
        Due.is("all alike", 0, () -> x.most(40));
        x.put(0, -1);
        Due.is("all but the first", 1, () -> x.most(1));
        NightMarch camp = Due.of("man 1 1;man 2 1;");
        Due.is("none has any", 0, () -> camp.most(40));
        // 0 has 1 HONOUR, 1 has none yet: he draws level, then is ahead.
        NightMarch y = Due.of("beats 4;man 1 9;man 2 9;row 0;slack 0;");
        y.nights(1);
        y.put(0, -1);
        y.put(1, 0);
        Due.is("level", 0, () -> y.most(1));
        Due.is("ahead", 1, () -> y.most(2));
    }

    @Edge(promise = 40, says = "(99 at most)")
    static void mostAt99() {
        NightMarch y = Due.of("beats 4;man 1 9;man 2 9;row 0;row 1;slack 0;");
        y.put(0, -1);
        for (int i = 0; i < 5; i++) {
            y.nights(20);
        }
        y.put(0, y.man(1, 3) == 0 ? 1 : 0);
        for (int i = 0; i < 4; i++) {
            y.nights(20);
        }
        Due.is("99", 99, () -> y.man(1, 2));
        Due.is("80", 80, () -> y.man(0, 2));
        Due.is("98 and 99", 1, () -> y.most(18));
        Due.is("99 and 99: the least", 0, () -> y.most(19));
        Due.is("99 and 99 for good", 0, () -> y.most(40));
    }

    @Edge(promise = 41, says = "NoSuchElementException: another what. IllegalArgumentException (behind that): not 1 to 40.")
    static void oftenIn1To40() {
        NightMarch x = Due.of(OWN);
        for (int what = 0; what < 2; what++) {
            int asked = what;
            Due.within("nights", 1, 40, Due.ILLEGAL, nights -> x.often(nights, asked));
        }
        Due.within("what", 0, 1, Due.NO_SUCH, what -> x.often(40, what));
        Due.is("what and nights", Due.NO_SUCH, () -> x.often(41, 2));
        Due.is("what and nights", Due.NO_SUCH, () -> x.often(0, -1));
    }

    @Edge(promise = {40, 41}, says = "(If only NIGHTS go by, from now on, so many, 1 to 40:)")
    static void soManyNightsFromNowOn() {
        // In the first of eight NIGHTS all is heard, and the first MAN is NAMED; else nothing, and the last one is.
        NightMarch x = Due.of("beats 4;man 15 1;man 0 1;row 0;mud 1 0 0 0 0 0 0 0;slack 0;hears mud;");
        Due.is("RIGHT in 1", 1, () -> x.often(1, 1));
        Due.is("RIGHT in 8", 1, () -> x.often(8, 1));
        Due.is("RIGHT in 9", 2, () -> x.often(9, 1));
        Due.is("RIGHT in 40", 5, () -> x.often(40, 1));
        Due.is("most in 1", 0, () -> x.most(1));
        Due.is("most in 2", 0, () -> x.most(2));
        Due.is("most in 3", 1, () -> x.most(3));
        x.heel(1, 0);
        Due.is("nobody in 1", 0, () -> x.often(1, 0));
        Due.is("nobody in 2", 1, () -> x.often(2, 0));
        Due.is("nobody in 40", 35, () -> x.often(40, 0));
        x.nights(1);
        Due.is("nobody in 39 from then on", 35, () -> x.often(39, 0));
        Due.is("nobody in 40 from then on", 35, () -> x.often(40, 0));
        Due.is("RIGHT in 40 from then on", 5, () -> x.often(40, 1));
        Due.is("nothing went by", 1, () -> x.count(4));
    }

    @Edge(promise = 41, says = "NOBODY: how often nobody is NAMED for a ROW in them. RIGHT: how often one is NAMED for a ROW who is in it, in them.")
    static void oftenOfNoneAndOfAll() {
        NightMarch x = Due.of(OWN);
        Due.is("never nobody", 0, () -> x.often(40, 0));
        Due.is("RIGHT for all ROWS in all", 320, () -> x.often(40, 1));
        Due.is("RIGHT for all ROWS in one", 8, () -> x.often(1, 1));
        NightMarch y = Due.of("man 1 1;".repeat(8) + EIGHT_ROWS + "slack 0;mud 9;");
        Due.is("always nobody", 320, () -> y.often(40, 0));
        Due.is("never RIGHT", 0, () -> y.often(40, 1));
        NightMarch z = Due.of("man 1 9;".repeat(8) + EIGHT_ROWS + "slack 0;");
        Due.is("RIGHT for one alone, MISTAKEN else", 40, () -> z.often(40, 1));
        Due.is("never nobody", 0, () -> z.often(40, 0));
        Due.is("no ROWS: nobody", 0, () -> new NightMarch().often(40, 0));
        Due.is("no ROWS: RIGHT", 0, () -> new NightMarch().often(40, 1));
    }

    // ---- Promise 42

    @Edge(promise = 42, says = "by how many more (or fewer, below 0) ROWS one would be NAMED who is in them, in the next NIGHT, were he in camp.")
    static void spoiltBelowAndAbove0() {
        // 1 drowns both beside him.
        NightMarch x = Due.of("beats 4;man 1 1;man 3 9;man 2 1;man 8 1;row 0;row 1;row 2;slack 0;hears others<sum;");
        Due.is("two more, one fewer", 1, () -> x.spoilt(1));
        Due.is("no more", 0, () -> x.spoilt(0));
        Due.is("in camp he is already", 0, () -> x.spoilt(3));
        Due.is("he stays", 1, () -> x.man(1, 3));
        NightMarch own = Due.of(OWN);
        Due.is("one fewer", -1, () -> own.spoilt(7));
        Due.within("man", 0, 7, Due.NO_SUCH, own::spoilt);
        Due.is("no MEN", Due.NO_SUCH, () -> new NightMarch().spoilt(0));
    }

    // ---- Promise 43

    @Edge(promise = 43, says = "NONE: none, in camp. NoSuchElementException: also another what.")
    static void reformInCamp() {
        NightMarch x = Due.of("beats 4;man 1 9;man 15 9;man 2 9;row 0;row 2;slack 0;hears 1;");
        Due.is("none: another one has all BEATS, but comes behind", 3, () -> x.reform(0, 0));
        Due.is("the TREAD", 15, () -> x.reform(0, 1));
        Due.is("none: another one has all BEATS", -1, () -> x.reform(2, 0));
        Due.is("none: another one has all BEATS", -1, () -> x.reform(2, 1));
        Due.is("in camp", -1, () -> x.reform(1, 0));
        Due.is("in camp", -1, () -> x.reform(1, 1));
        Due.is("in camp, another what", Due.NO_SUCH, () -> x.reform(1, 2));
        Due.within("what", 0, 1, Due.NO_SUCH, what -> x.reform(0, what));
        Due.within("man", 0, 2, Due.NO_SUCH, man -> x.reform(man, 0));
    }

    @Edge(promise = 43, says = "at how few BEATS the TREAD of a MAN who is in a ROW must be otherwise now")
    static void reformAtNoneAndAtAllBeats() {
        NightMarch x = Due.of("beats 12;man 4095 9;row 0;slack 0;hears 1;");
        Due.is("none", 0, () -> x.reform(0, 0));
        Due.is("as it is", 4095, () -> x.reform(0, 1));
        NightMarch y = Due.of("beats 12;man 4095 9;row 0;slack 0;hears 0;");
        Due.is("all", 12, () -> y.reform(0, 0));
        Due.is("none of them", 0, () -> y.reform(0, 1));
        NightMarch mate = Due.of("beats 12;man 1 9;man 2 1;row 0 1;slack 0;hears sum;");
        Due.is("the other one's BEAT", 1, () -> mate.reform(0, 0));
        Due.is("is his, too", 3, () -> mate.reform(0, 1));
        // What is heard goes on from his first BEAT: with that he needs all behind it, or none at all.
        NightMarch last = Due.of("beats 12;man 4094 9;row 0;slack 0;hears sum or last;");
        Due.is("as it is heard", 0, () -> last.reform(0, 0));
        last.heel(0, 6);
        Due.is("one is wanting", 1, () -> last.reform(0, 0));
        Due.is("it comes again", 4094, () -> last.reform(0, 1));
        last.heel(0, 2);
        last.heel(0, 3);
        Due.is("three are wanting: one comes, the first one goes", 2, () -> last.reform(0, 0));
        Due.is("from 4 on", 4080, () -> last.reform(0, 1));
        NightMarch first = Due.of("beats 12;man 1 9;row 0;slack 0;hears sum or last;");
        Due.is("eleven are wanting", 1, () -> first.reform(0, 0));
        Due.is("it goes rather", 0, () -> first.reform(0, 1));
        NightMarch other = Due.of("beats 4;man 3 9;man 1 9;row 0;row 1;mud 1 0;slack 0;hears mud and not others and sum;");
        Due.is("what the ROW beside him drowns", 1, () -> other.reform(0, 0));
        Due.is("is no BEAT for him in the next NIGHT", 2, () -> other.reform(0, 1));
        other.nights(1);
        Due.is("in the one behind it nothing is heard", 0, () -> other.reform(0, 1));
        NightMarch slack = Due.of("beats 12;man 4095 9;row 0;slack 11;hears 0;");
        Due.is("one", 1, () -> slack.reform(0, 0));
        Due.is("of like ones the least", 2047, () -> slack.reform(0, 1));
        Due.is("the TREAD stays", 4095, () -> slack.man(0, 0));
    }

    @Edge(promise = 43, says = "how many; the TREAD then (of like ones the least); none, in camp.")
    static void reformOfLikeOnesTheLeast() {
        NightMarch x = Due.of("beats 4;man 0 1;man 7 1;row 0;slack 1;hears 1;");
        // He must be as near to 15 as the one in camp: all but one BEAT, by 3 of his.
        Due.is("how many", 3, () -> x.reform(0, 0));
        Due.is("of four the least", 7, () -> x.reform(0, 1));
        x.put(0, -1);
        Due.is("in camp", -1, () -> x.reform(0, 0));
        x.put(1, 0);
        Due.is("as it is", 0, () -> x.reform(1, 0));
        Due.is("as it is", 7, () -> x.reform(1, 1));
        x.heel(0, 0);
        x.heel(0, 1);
        x.heel(0, 3);
        Due.is("one as near is ahead of him: he needs all", 1, () -> x.reform(1, 0));
        Due.is("all BEATS", 15, () -> x.reform(1, 1));
        x.heel(0, 2);
        Due.is("one ahead of him has all: none", -1, () -> x.reform(1, 0));
    }

    // ---- Promises 44 and 45

    @Edge(promise = 44, says = "if these are more than without (of like ones the first): 10 by the lesser one, and the other one; none.")
    static void swapThatIsNoBetter() {
        Due.is("no ROWS", -1, () -> new NightMarch().swap());
        NightMarch one = Due.of("man 1 9;row 0;");
        Due.is("one ROW", -1, one::swap);
        NightMarch own = Due.of(OWN);
        Due.is("all are RIGHT already", -1, own::swap);
        NightMarch none = Due.of("man 1 1;".repeat(8) + EIGHT_ROWS + "slack 0;mud 9;");
        Due.is("none is RIGHT, however they stand", -1, none::swap);
        NightMarch two = Due.of("beats 4;man 1 1;man 3 1;row 0;row 1;slack 0;hears sum-others;");
        Due.is("two ROWS are beside one another all the same", -1, two::swap);
        // 0 and 1, who have one BEAT, must not be side by side: 0 is RIGHT then, and 1 is taken for 0.
        NightMarch x = Due.of("beats 4;man 1 1;man 1 1;man 2 1;man 4 1;row 0;row 1;row 2;row 3;slack 0;"
            + "hears sum and not others;");
        Due.is("of 0 and 3, 1 and 2, 1 and 3 the first", 3, x::swap);
        x.change(0, 3);
        Due.is("no more are RIGHT by another one", -1, x::swap);
    }

    @Edge(promise = 44, says = "A CHANGE; NONE: none.")
    static void swapOf0To3Rows() {
        String men = "beats 4;man 1 1;man 2 1;man 1 1;man 4 1;";
        String rule = "slack 0;hears sum and not others;";
        for (String rows : new String[] {"", "row 0;", "row 0;row 2;", "row 0;row 1;row 2;"}) {
            NightMarch x = Due.of(men + rows + rule);
            Due.is("none", -1, x::swap);
        }
        NightMarch three = Due.of(men + "row 0;row 2;row 1;" + rule);
        Due.is("0 and 2, who are alike, are kept apart", 12, three::swap);
    }

    @Edge(promise = 44, says = "A CHANGE of two ROWS (the lesser first): that by which most ROWS are RIGHT in the next NIGHT")
    static void swapOfTheFirstOrTheLastTwo() {
        // Each has to be beside the one ahead of him, but for 7, who is never RIGHT: 6 is not beside 5 yet.
        String chain = "beats 12;man 1 1;man 3 1;man 6 1;man 12 1;man 24 1;man 48 1;man 32 1;man 2048 1;";
        NightMarch last = Due.of(chain + "row 0;row 1;row 2;row 3;row 4;row 5;row 7;row 6;slack 0;hears sum and others;");
        Due.is("RIGHT now", 5, () -> last.often(1, 1));
        Due.is("the last two", 67, last::swap);
        last.change(6, 7);
        Due.is("RIGHT then", 7, () -> last.often(1, 1));
        Due.is("no better", -1, last::swap);
        NightMarch first = Due.of(chain + "row 6;row 7;row 5;row 4;row 3;row 2;row 1;row 0;slack 0;hears sum and others;");
        Due.is("the first two", 1, first::swap);
    }

    @Edge(promise = 45, says = "THE LOUDEST ROW; NONE: no ROWS.")
    static void loudestWithoutRows() {
        Due.is("no ROWS", -1, () -> new NightMarch().loudest());
        NightMarch camp = Due.of("man 1 9;");
        Due.is("MEN, but no ROWS", -1, camp::loudest);
        NightMarch x = Due.of("man 1 9;man 1 9;row 0;row 1;");
        Due.is("of like ones the first", 0, x::loudest);
        x.loud(0, 8);
        Due.is("the last one", 1, x::loudest);
        x.put(0, -1);
        x.put(1, -1);
        Due.is("without MEN in them the first", 0, x::loudest);
        x.put(0, 1);
        Due.is("any is more than none", 1, x::loudest);
    }

    @Edge(promise = 45, says = "THE LOUDEST ROW: that with most LOUD of its MEN, together, now (of like ones the first); none without.")
    static void loudestOf4Together() {
        NightMarch x = Due.of("man 0 9;man 0 2;man 0 2;man 0 2;man 0 3;row 0;row 1 2 3 4;");
        Due.is("together alike", 0, x::loudest);
        x.loud(4, 4);
        Due.is("together more", 1, x::loudest);
    }

    // ---- Promises 46 and 47

    @Edge(promise = 46, says = "A RUN of a TREAD: the most BEATS one behind the other that it has.")
    static void runFrom0To12() {
        NightMarch x = Due.of("beats 12;man 0 1;man 4095 1;man 2049 1;man 2048 1;man 1 1;man 3999 1;man 2047 1;man 4094 1;");
        int[] runs = {0, 12, 1, 1, 1, 5, 11, 11};
        for (int man = 0; man < 8; man++) {
            Due.same("run of " + man, runs[man], x.run(man));
        }
        Due.within("man", 0, 7, Due.NO_SUCH, x::run);
        Due.is("no MEN", Due.NO_SUCH, () -> new NightMarch().run(0));
        NightMarch four = Due.of("beats 4;man 4095 1;");
        Due.is("no BEATS beyond", 4, () -> four.run(0));
    }

    @Edge(promise = 47, says = "THE RAREST BEAT: that which fewest TREADS have (of like ones the least).")
    static void rarestOfLikeOnes() {
        Due.is("no MEN: all alike", 0, () -> new NightMarch().rarest());
        NightMarch all = Due.of("beats 12;man 4095 1;");
        Due.is("all alike", 0, all::rarest);
        all.heel(0, 11);
        Due.is("the last one", 11, all::rarest);
        all.heel(0, 5);
        Due.is("of two the least", 5, all::rarest);
        NightMarch four = Due.of("beats 4;man 15 1;man 14 1;man 13 1;");
        Due.is("none beyond BEATS", 0, four::rarest);
        four.heel(1, 0);
        Due.is("the second one", 1, four::rarest);
    }
}
