import java.util.NoSuchElementException;

/**
 * March past in the dark: a general names men by the tread that is nearest to what he hears.
 * The words in capitals are those of the document.
 */
public final class NightMarch {
    /** There is none; nobody. */
    public static final int NONE = -1;

    private static final int REFUSED = -2;

    private static final int MOST_MEN = 8;
    private static final int MOST_ROWS = 8;
    private static final int MOST_ABREAST = 4;
    private static final int MOST_BEATS = 12;
    private static final int MOST_MUDS = 8;
    private static final int MOST_LOUD = 9;
    private static final int MOST_HONOUR = 99;
    private static final int MOST_ACTS = 40;
    private static final int MOST_SEEN = 8;
    private static final int MOST_ORDERED = 6;
    private static final int LAST_NIGHT = 999;
    private static final int AT_ONCE = 20;
    private static final int AHEAD = 40;
    private static final int SEEN_AHEAD = 12;
    private static final int GAME_NIGHTS = 6;
    private static final int TAPE_BYTES = 700;
    private static final int FED_BYTES = 20;

    private static final int PLAIN_BEATS = 8;
    private static final int PLAIN_SLACK = 2;
    private static final int PLAIN_MUD = 2;

    private static final int TEXTS = 0;
    private static final int ACTS = 1;
    private static final int SIGHTS = 2;

    private final Cells tape = new Cells(TAPE_BYTES);
    private int taped = 0;
    private int faultPlace = NONE;
    private final Cells status = new Cells(3);
    private final Army told = new Army();
    private final State now = new State(told);
    private final State kept = new State(told);
    private boolean isKept = false;
    private final March march = now.march;
    private final March trial = new March(told);
    private final Reader reader = new Reader(tape);
    private final Suspects suspects = new Suspects();
    private final Orders orders = new Orders();
    private final Cells gains = new Cells(8);
    private final Cells hearing = new Cells(4 * MOST_BEATS);

    public NightMarch() {
    }

    public int feed(int a, int b, int c, int d, int e) {
        if (taped + FED_BYTES > TAPE_BYTES) {
            return NONE;
        }
        tapeNumber(a);
        tapeNumber(b);
        tapeNumber(c);
        tapeNumber(d);
        tapeNumber(e);
        return taped;
    }

    public int army(int n) throws IllegalArgumentException {
        if (n < 0 || n > taped) {
            throw new IllegalArgumentException("the tape has not so many bytes");
        }
        int kind = reader.readArmy(n);
        taped = 0;
        faultPlace = reader.faultPlace;
        if (kind != 0) {
            refuse(TEXTS);
            return kind;
        }
        told.copyFrom(reader.army);
        march.copyFrom(reader.march);
        now.acts.size = 0;
        now.sights.size = 0;
        isKept = false;
        return 0;
    }

    public int fault() {
        return faultPlace;
    }

    public int count(int what) throws NoSuchElementException {
        switch (what) {
            case 0: return told.beats;
            case 1: return told.men;
            case 2: return told.rows;
            case 3: return told.slack;
            case 4: return march.night;
            case 5: return march.mudIn(0);
            case 6: return march.honourOfAll();
            case 7: return march.menInCamp();
            case 8: return march.couplesInStep();
            case 9: return now.acts.size;
            case 10: return now.sights.size;
            case 11: return taped;
            case 12: return status.at(TEXTS);
            case 13: return status.at(ACTS);
            case 14: return status.at(SIGHTS);
            default: throw new NoSuchElementException("no such count");
        }
    }

    public int man(int man, int what) throws NoSuchElementException {
        needMan(man);
        switch (what) {
            case 0: return march.treads.at(man);
            case 1: return march.louds.at(man);
            case 2: return march.honours.at(man);
            case 3: return march.rowOf(man);
            default: throw new NoSuchElementException("no such thing of a man");
        }
    }

    public int row(int row, int what) throws NoSuchElementException {
        needRow(row);
        switch (what) {
            case 0: return march.rows.at(row);
            case 1: return march.heardAt(row, 0);
            case 2: return march.namedAt(row, 0, march.mudIn(0));
            default: throw new NoSuchElementException("no such thing of a row");
        }
    }

    public int nights(int many) {
        if (many < 1 || many > AT_ONCE || march.night + many > LAST_NIGHT) {
            refuse(ACTS);
            return NONE;
        }
        now.acts.keep(Acts.NIGHTS, many, 0, march);
        for (int i = 0; i < many; i++) {
            march.goBy();
        }
        return march.night;
    }

    public int put(int man, int row) throws NoSuchElementException {
        needMan(man);
        if (row != NONE) {
            needRow(row);
        }
        int was = march.rowOf(man);
        if (was == row || march.isFullFor(man, row)) {
            refuse(ACTS);
            return REFUSED;
        }
        now.acts.keep(Acts.PUT, man, was, march);
        march.place(man, row);
        return was;
    }

    public int heel(int man, int beat) throws NoSuchElementException {
        needMan(man);
        needBeat(beat);
        now.acts.keep(Acts.HEEL, man, beat, march);
        march.turnHeel(man, beat);
        return march.treads.at(man);
    }

    public int loud(int man, int loud) throws NoSuchElementException {
        needMan(man);
        if (loud < 1 || loud > MOST_LOUD) {
            refuse(ACTS);
            return NONE;
        }
        int was = march.louds.at(man);
        now.acts.keep(Acts.LOUD, man, was, march);
        march.louds.set(man, loud);
        return was;
    }

    public boolean change(int row, int other) throws NoSuchElementException {
        needRow(row);
        needRow(other);
        if (row == other) {
            refuse(ACTS);
            return false;
        }
        now.acts.keep(Acts.CHANGE, row, other, march);
        march.exchange(row, other);
        return true;
    }

    public int undo() {
        return now.acts.size == 0 ? NONE : now.acts.takeBack(march);
    }

    public int then(int row, int nights, int what) throws NoSuchElementException, IllegalArgumentException {
        needRow(row);
        needWhat(what, 1);
        needWithin(nights, 0, AHEAD);
        return what == 0 ? march.heardAt(row, nights) : march.namedAt(row, nights, march.mudIn(nights));
    }

    public int honour(int man, int nights) throws NoSuchElementException, IllegalArgumentException {
        needMan(man);
        needWithin(nights, 0, AHEAD);
        return march.honourAfter(man, nights);
    }

    public int first(int man) throws NoSuchElementException {
        needMan(man);
        for (int night = 0; night < AHEAD; night++) {
            if (march.timesNamed(man, night, march.mudIn(night)) > 0) {
                return night + 1;
            }
        }
        return NONE;
    }

    public int mistaken(int k) throws IllegalArgumentException {
        needWithin(k, 1, AHEAD);
        int mud = march.mudIn(k - 1);
        int bits = 0;
        for (int place = 0; place < told.rows; place++) {
            int named = march.namedAt(place, k - 1, mud);
            if (named != NONE && !holds(march.menAt(place, k - 1), named)) {
                bits |= 1 << place;
            }
        }
        return bits;
    }

    public int unsung(int nights) throws IllegalArgumentException {
        needWithin(nights, 1, AHEAD);
        int bits = told.allMen();
        for (int night = 0; night < nights; night++) {
            bits &= ~march.namedBits(night);
        }
        return bits;
    }

    public int far(int man, int other) throws NoSuchElementException {
        needMan(man);
        needMan(other);
        return march.farFrom(man, march.treads.at(other));
    }

    public int nearest() {
        int least = MOST_BEATS + 1;
        int couple = NONE;
        for (int man = 0; man < told.men; man++) {
            for (int other = man + 1; other < told.men; other++) {
                int apart = march.farFrom(man, march.treads.at(other));
                if (apart < least) {
                    least = apart;
                    couple = 10 * man + other;
                }
            }
        }
        return couple;
    }

    public int apart(int beats) throws IllegalArgumentException {
        needWithin(beats, 1, MOST_BEATS);
        int best = 0;
        for (int set = 1; set <= told.allMen(); set++) {
            if (Integer.bitCount(set) > Integer.bitCount(best) && march.isToldApart(set, beats)) {
                best = set;
            }
        }
        return best;
    }

    public int tread(int what) throws NoSuchElementException {
        needWhat(what, 1);
        if (told.men == 0) {
            return NONE;
        }
        int best = 0;
        int farthest = march.leastFar(0);
        for (int bits = 1; bits <= told.allBeats(); bits++) {
            int least = march.leastFar(bits);
            if (least > farthest) {
                farthest = least;
                best = bits;
            }
        }
        return what == 0 ? farthest : best;
    }

    public int passes(int man, int other) throws NoSuchElementException {
        needMan(man);
        needMan(other);
        if (man == other) {
            return NONE;
        }
        for (int row = 0; row < told.rows; row++) {
            if (!march.isFullFor(man, row) && namedWith(man, row) == other) {
                return row;
            }
        }
        return NONE;
    }

    public int hidden(int man) throws NoSuchElementException {
        needMan(man);
        int bits = 0;
        for (int row = 0; row < told.rows; row++) {
            if (!march.isFullFor(man, row) && namedWith(man, row) != man) {
                bits |= 1 << row;
            }
        }
        return bits;
    }

    public int toSock(int man) throws NoSuchElementException {
        needMan(man);
        if (march.rowOf(man) == NONE) {
            return NONE;
        }
        trial.copyFrom(march);
        for (int loud = MOST_LOUD; loud >= 1; loud--) {
            trial.louds.set(man, loud);
            if (trial.timesNamed(man, 0, trial.mudIn(0)) == 0) {
                return loud;
            }
        }
        return NONE;
    }

    public int review(int i) throws NoSuchElementException {
        if (i != NONE) {
            needRow(i);
        }
        if (told.rows > MOST_ORDERED) {
            return REFUSED;
        }
        orders.seek(march);
        return i == NONE ? orders.mostRight : orders.best.at(i);
    }

    public int see(int row, int k, int beat, boolean is) throws NoSuchElementException {
        needRow(row);
        needBeat(beat);
        if (now.sights.size >= MOST_SEEN || k < 1 || k > SEEN_AHEAD) {
            refuse(SIGHTS);
            return NONE;
        }
        return now.sights.keep(row, k, beat, is ? 1 : 0);
    }

    public void forget() {
        now.sights.size = 0;
    }

    public int limped(int what) throws NoSuchElementException {
        needWhat(what, 2);
        if (what == 2) {
            return now.sights.allHold(march) ? 1 : 0;
        }
        trial.copyFrom(march);
        suspects.gather(trial, now.sights);
        if (what == 0) {
            return suspects.size;
        }
        return suspects.size == 0 ? NONE : 100 * suspects.men.at(0) + suspects.beats.at(0);
    }

    public int next(int what) throws NoSuchElementException {
        needWhat(what, 1);
        trial.copyFrom(march);
        suspects.gather(trial, now.sights);
        int best = NONE;
        int most = 0;
        for (int place = 0; place < told.rows; place++) {
            int unlike = suspects.unlikeSounds(trial, place);
            if (unlike > most) {
                most = unlike;
                best = place;
            }
        }
        return what == 0 ? best : most;
    }

    public int byMud(int man, int nights, int tenths) throws NoSuchElementException, IllegalArgumentException {
        needMan(man);
        needWithin(nights, 1, 5);
        needWithin(tenths, 0, 10);
        int tenfold = 0;
        int power = 1;
        for (int night = 0; night < nights; night++) {
            tenfold += tenths * march.timesNamed(man, night, 9);
            tenfold += (10 - tenths) * march.timesNamed(man, night, 0);
            power *= night == 0 ? 1 : 10;
        }
        return tenfold * power;
    }

    public int game(int man, int other, int what) throws NoSuchElementException, IllegalArgumentException {
        needMan(man);
        needMan(other);
        needWhat(what, 1);
        if (man == other || march.rowOf(man) == NONE || march.rowOf(other) == NONE) {
            throw new IllegalArgumentException("two men who are in rows play");
        }
        for (int couple = 0; couple < 4; couple++) {
            stamp(man, other, couple);
        }
        int rests = 0;
        int best = NONE;
        for (int couple = 3; couple >= 0; couple--) {
            if (doesRest(couple)) {
                rests++;
                best = 10 * (couple >> 1) + (couple & 1);
            }
        }
        return what == 0 ? rests : best;
    }

    public int reviews(int seed, int n, int what) throws NoSuchElementException, IllegalArgumentException {
        needWhat(what, 2);
        needWithin(n, 0, AHEAD);
        trial.copyFrom(march);
        int drawn = seed;
        int mistakes = 0;
        for (int night = 0; night < n; night++) {
            drawn = stirred(drawOfMan(drawn));
            mistakes += trial.parade(night, draw(drawn, 10));
        }
        if (what == 0) {
            return trial.honourOfAll();
        }
        return what == 1 ? mistakes : trial.mostHonoured();
    }

    public int nextTo(int beats) throws IllegalArgumentException {
        needWithin(beats, 0, told.allBeats());
        return march.namedBy(beats);
    }

    public int alike(int beats) throws IllegalArgumentException {
        needWithin(beats, 0, told.allBeats());
        int least = march.leastFar(beats);
        int bits = 0;
        for (int man = 0; man < told.men; man++) {
            if (march.farFrom(man, beats) == least) {
                bits |= 1 << man;
            }
        }
        return bits;
    }

    public int lost(int man) throws NoSuchElementException {
        needMan(man);
        int place = march.rowOf(man);
        int heard = place == NONE ? 0 : march.heardAt(place, 0);
        return march.treads.at(man) & ~heard;
    }

    public int mates(int man) throws NoSuchElementException {
        needMan(man);
        int place = march.rowOf(man);
        return place == NONE ? 0 : march.rows.at(place) & ~(1 << man);
    }

    public int step() {
        int best = told.allMen();
        int whole = march.treadsTogether(best);
        for (int set = 0; set < told.allMen(); set++) {
            if (Integer.bitCount(set) < Integer.bitCount(best) && march.treadsTogether(set) == whole) {
                best = set;
            }
        }
        return best;
    }

    public int chain(int man, int other, int beats) throws NoSuchElementException, IllegalArgumentException {
        needMan(man);
        needMan(other);
        needWithin(beats, 1, MOST_BEATS);
        int reached = 1 << man;
        for (int steps = 0; steps < MOST_MEN; steps++) {
            if (holds(reached, other)) {
                return steps;
            }
            reached = march.reachedFrom(reached, beats);
        }
        return NONE;
    }

    public int most(int nights) throws IllegalArgumentException {
        needWithin(nights, 1, AHEAD);
        trial.copyFrom(march);
        for (int night = 0; night < nights; night++) {
            trial.parade(night, trial.mudIn(night));
        }
        return trial.mostHonoured();
    }

    public int often(int nights, int what) throws NoSuchElementException, IllegalArgumentException {
        needWhat(what, 1);
        needWithin(nights, 1, AHEAD);
        int times = 0;
        for (int night = 0; night < nights; night++) {
            times += what == 0 ? march.timesNamed(NONE, night, march.mudIn(night)) : march.rightRows(night);
        }
        return times;
    }

    public int spoilt(int man) throws NoSuchElementException {
        needMan(man);
        trial.copyFrom(march);
        trial.place(man, NONE);
        return trial.rightRows(0) - march.rightRows(0);
    }

    public int reform(int man, int what) throws NoSuchElementException {
        needMan(man);
        needWhat(what, 1);
        int place = march.rowOf(man);
        if (place == NONE) {
            return NONE;
        }
        trial.copyFrom(march);
        listenTo(man, place);
        int was = march.treads.at(man);
        int best = NONE;
        int fewest = MOST_BEATS + 1;
        for (int bits = 0; bits <= told.allBeats(); bits++) {
            int changed = Integer.bitCount(bits ^ was);
            if (changed < fewest && isNamedWith(man, bits)) {
                fewest = changed;
                best = bits;
            }
        }
        return what == 0 && best != NONE ? fewest : best;
    }

    public int swap() {
        int most = march.rightRows(0);
        int best = NONE;
        trial.copyFrom(march);
        for (int row = 0; row < told.rows; row++) {
            for (int other = row + 1; other < told.rows; other++) {
                trial.exchange(row, other);
                int right = trial.rightRows(0);
                trial.exchange(row, other);
                if (right > most) {
                    most = right;
                    best = 10 * row + other;
                }
            }
        }
        return best;
    }

    public int loudest() {
        int most = NONE;
        int best = NONE;
        for (int row = 0; row < told.rows; row++) {
            int together = march.loudTogether(row);
            if (together > most) {
                most = together;
                best = row;
            }
        }
        return best;
    }

    public int run(int man) throws NoSuchElementException {
        needMan(man);
        int longest = 0;
        int length = 0;
        for (int beat = 0; beat < told.beats; beat++) {
            length = holds(march.treads.at(man), beat) ? length + 1 : 0;
            longest = Math.max(longest, length);
        }
        return longest;
    }

    public int rarest() {
        int best = 0;
        int fewest = march.menWithBeat(0);
        for (int beat = 1; beat < told.beats; beat++) {
            int many = march.menWithBeat(beat);
            if (many < fewest) {
                fewest = many;
                best = beat;
            }
        }
        return best;
    }

    public void image() {
        kept.copyFrom(now);
        isKept = true;
    }

    public boolean restore() {
        if (isKept) {
            now.copyFrom(kept);
        }
        return isKept;
    }

    private void tapeNumber(int number) {
        for (int shift = 24; shift >= 0; shift -= 8) {
            tape.set(taped, (number >> shift) & 255);
            taped++;
        }
    }

    private void refuse(int which) {
        status.set(which, status.at(which) + 1);
    }

    private void needMan(int man) {
        if (man < 0 || man >= told.men) {
            throw new NoSuchElementException("no such man");
        }
    }

    private void needRow(int row) {
        if (row < 0 || row >= told.rows) {
            throw new NoSuchElementException("no such row");
        }
    }

    private void needBeat(int beat) {
        if (beat < 0 || beat >= told.beats) {
            throw new NoSuchElementException("no such beat");
        }
    }

    private static void needWhat(int what, int greatest) {
        if (what < 0 || what > greatest) {
            throw new NoSuchElementException("no such what");
        }
    }

    private static void needWithin(int number, int least, int greatest) {
        if (number < least || number > greatest) {
            throw new IllegalArgumentException("a number is not as told");
        }
    }

    private static boolean holds(int bits, int which) {
        return (bits >> which & 1) != 0;
    }

    /** Who is NAMED for a ROW in the next NIGHT, were a MAN in it. */
    private int namedWith(int man, int row) {
        trial.copyFrom(march);
        trial.place(man, row);
        return trial.namedAt(row, 0, trial.mudIn(0));
    }

    /** Of a couple of choices (2 by the first one's and the other one's) both gains. */
    private void stamp(int man, int other, int couple) {
        int mine = couple >> 1;
        int his = couple & 1;
        trial.copyFrom(march);
        if (mine == 1) {
            trial.louds.set(man, MOST_LOUD);
        }
        if (his == 1) {
            trial.louds.set(other, MOST_LOUD);
        }
        gains.set(2 * couple, gainOf(man, other) - mine);
        gains.set(2 * couple + 1, gainOf(other, man) - his);
    }

    private int gainOf(int man, int other) {
        int was = trial.honours.at(man);
        int honour = was;
        int losses = 0;
        for (int night = 0; night < GAME_NIGHTS; night++) {
            int mud = trial.mudIn(night);
            int loss = 0;
            for (int place = 0; place < told.rows; place++) {
                int named = trial.namedAt(place, night, mud);
                honour += named == man ? 1 : 0;
                loss = named == other ? 1 : loss;
            }
            losses += loss;
        }
        return Math.min(MOST_HONOUR, honour) - was - losses;
    }

    private boolean doesRest(int couple) {
        return gains.at(2 * couple) >= gains.at(2 * (couple ^ 2))
            && gains.at(2 * couple + 1) >= gains.at(2 * (couple ^ 1) + 1);
    }

    /** What is drawn of the MEN ahead of a NIGHT, done to those on trial: the seed then. */
    private int drawOfMan(int seed) {
        if (told.men == 0) {
            return seed;
        }
        int drawn = stirred(seed);
        int man = draw(drawn, told.men);
        drawn = stirred(drawn);
        int kind = draw(drawn, 3);
        if (kind == 0) {
            drawn = stirred(drawn);
            trial.turnHeel(man, draw(drawn, told.beats));
        } else if (kind == 1) {
            drawn = stirred(drawn);
            trial.louds.set(man, draw(drawn, MOST_LOUD) + 1);
        }
        return drawn;
    }

    private static int stirred(int seed) {
        return seed * 1103515245 + 12345;
    }

    private static int draw(int seed, int n) {
        return n <= 0 ? 0 : (seed >> 16 & 32767) % n;
    }

    /**
     * Whether each BEAT of a ROW is HEARD, by whether the MAN's TREAD has it and whether the one ahead was HEARD:
     * nothing else of his TREAD matters for it, so that not every TREAD needs the rule anew.
     */
    private void listenTo(int man, int place) {
        int abreast = march.menAt(place, 0);
        int beside = march.besideAt(place, 0);
        int mud = march.mudIn(0);
        for (int has = 0; has < 2; has++) {
            trial.treads.set(man, has == 0 ? 0 : told.allBeats());
            for (int beat = 0; beat < told.beats; beat++) {
                for (int last = 0; last < 2; last++) {
                    int isHeard = trial.hearsBeat(beat, abreast, beside, mud, last);
                    hearing.set(4 * beat + 2 * has + last, isHeard);
                }
            }
        }
    }

    /** Whether the MAN to whom listenTo() listened is NAMED for his ROW with another TREAD. */
    private boolean isNamedWith(int man, int bits) {
        int heard = 0;
        int last = 0;
        for (int beat = 0; beat < told.beats; beat++) {
            last = hearing.at(4 * beat + 2 * (bits >> beat & 1) + last);
            heard |= last << beat;
        }
        trial.treads.set(man, bits);
        return trial.namedBy(heard) == man;
    }

    /** A row of numbers whose every index is looked at here before it is used. */
    private static final class Cells {
        private final int[] cells;

        Cells(int size) {
            cells = new int[Math.max(size, 0)];
        }

        int at(int i) {
            return i >= 0 && i < cells.length ? cells[i] : 0;
        }

        void set(int i, int number) {
            if (i >= 0 && i < cells.length) {
                cells[i] = number;
            }
        }

        void fill(int number) {
            for (int i = 0; i < cells.length; i++) {
                cells[i] = number;
            }
        }

        void copyFrom(Cells other) {
            for (int i = 0; i < cells.length && i < other.cells.length; i++) {
                cells[i] = other.cells[i];
            }
        }
    }

    /** HEARS, each sign behind what it joins; a number stands for itself. */
    private static final class Rule {
        static final int SUM = -1;
        static final int OTHERS = -2;
        static final int MUD = -3;
        static final int BEAT = -4;
        static final int MANY = -5;
        static final int LAST = -6;
        static final int NOT = -7;
        static final int PLUS = -8;
        static final int MINUS = -9;
        static final int TIMES = -10;
        static final int OVER = -11;
        static final int LESS = -12;
        static final int SAME = -13;
        static final int AND = -14;
        static final int OR = -15;

        // Within 6 EXPR at most 5 numbers each wait for what stands behind their sign.
        private final Cells stack = new Cells(64);
        private final Cells codes = new Cells(TAPE_BYTES);
        private final Cells values = new Cells(6);
        int length = 0;

        void add(int code) {
            codes.set(length, code);
            length++;
        }

        void give(int value, int number) {
            values.set(-1 - value, number);
        }

        int answer() {
            int top = 0;
            for (int i = 0; i < length; i++) {
                int code = codes.at(i);
                if (code > NOT) {
                    stack.set(top, code >= 0 ? code : values.at(-1 - code));
                    top++;
                } else if (code == NOT) {
                    stack.set(top - 1, stack.at(top - 1) == 0 ? 1 : 0);
                } else {
                    top--;
                    stack.set(top - 1, joined(code, stack.at(top - 1), stack.at(top)));
                }
            }
            return stack.at(0);
        }

        private static int joined(int code, int left, int right) {
            switch (code) {
                case PLUS: return left + right;
                case MINUS: return left - right;
                case TIMES: return left * right;
                case OVER: return right == 0 ? 0 : left / right;
                case LESS: return left < right ? 1 : 0;
                case SAME: return left == right ? 1 : 0;
                case AND: return left != 0 && right != 0 ? 1 : 0;
                default: return left != 0 || right != 0 ? 1 : 0;
            }
        }

        void copyFrom(Rule other) {
            codes.copyFrom(other.codes);
            length = other.length;
        }
    }

    /** What a TEXT tells that no ACT changes. */
    private static final class Army {
        int beats = PLAIN_BEATS;
        int men = 0;
        int rows = 0;
        int slack = PLAIN_SLACK;
        int muds = 0;
        final Cells mud = new Cells(MOST_MUDS);
        final Rule rule = new Rule();

        void clear() {
            beats = PLAIN_BEATS;
            men = 0;
            rows = 0;
            slack = PLAIN_SLACK;
            muds = 0;
            rule.length = 0;
        }

        void copyFrom(Army other) {
            beats = other.beats;
            men = other.men;
            rows = other.rows;
            slack = other.slack;
            muds = other.muds;
            mud.copyFrom(other.mud);
            rule.copyFrom(other.rule);
        }

        int allBeats() {
            return (1 << beats) - 1;
        }

        int allMen() {
            return (1 << men) - 1;
        }

        int mudOf(int night) {
            return muds <= 0 ? PLAIN_MUD : mud.at(night % muds);
        }
    }

    /** MEN and ROWS as they are, and what is HEARD of them. In "so many nights" the ROWS have gone on by so many. */
    private static final class March {
        final Army army;
        int night = 0;
        final Cells treads = new Cells(MOST_MEN);
        final Cells louds = new Cells(MOST_MEN);
        final Cells honours = new Cells(MOST_MEN);
        final Cells rows = new Cells(MOST_ROWS);

        March(Army army) {
            this.army = army;
        }

        void clear() {
            night = 0;
            treads.fill(0);
            louds.fill(0);
            honours.fill(0);
            rows.fill(0);
        }

        void copyFrom(March other) {
            night = other.night;
            treads.copyFrom(other.treads);
            louds.copyFrom(other.louds);
            honours.copyFrom(other.honours);
            rows.copyFrom(other.rows);
        }

        int mudIn(int nights) {
            return army.mudOf(night + nights);
        }

        int menAt(int place, int nights) {
            if (place < 0 || place >= army.rows) {
                return 0;
            }
            return rows.at((place + nights) % army.rows);
        }

        int besideAt(int place, int nights) {
            return menAt(place - 1, nights) | menAt(place + 1, nights);
        }

        int heardAt(int place, int nights) {
            return heard(menAt(place, nights), besideAt(place, nights), mudIn(nights));
        }

        int namedAt(int place, int nights, int mud) {
            return namedBy(heard(menAt(place, nights), besideAt(place, nights), mud));
        }

        int heard(int abreast, int beside, int mud) {
            int bits = 0;
            int last = 0;
            for (int beat = 0; beat < army.beats; beat++) {
                last = hearsBeat(beat, abreast, beside, mud, last);
                bits |= last << beat;
            }
            return bits;
        }

        int hearsBeat(int beat, int abreast, int beside, int mud, int last) {
            int sum = loudAt(beat, abreast);
            Rule rule = army.rule;
            if (rule.length == 0) {
                return sum > mud ? 1 : 0;
            }
            rule.give(Rule.SUM, sum);
            rule.give(Rule.OTHERS, loudAt(beat, beside));
            rule.give(Rule.MUD, mud);
            rule.give(Rule.BEAT, beat);
            rule.give(Rule.MANY, Integer.bitCount(abreast));
            rule.give(Rule.LAST, last);
            return rule.answer() > 0 ? 1 : 0;
        }

        private int loudAt(int beat, int men) {
            int sum = 0;
            for (int man = 0; man < army.men; man++) {
                if (holds(men, man) && holds(treads.at(man), beat)) {
                    sum += louds.at(man);
                }
            }
            return sum;
        }

        int namedBy(int heard) {
            int named = NONE;
            int fewest = army.slack + 1;
            for (int man = 0; man < army.men; man++) {
                int unlike = Integer.bitCount(treads.at(man) ^ heard);
                if (unlike < fewest) {
                    fewest = unlike;
                    named = man;
                }
            }
            return named;
        }

        /** For how many ROWS a MAN (NONE: nobody) is NAMED. */
        int timesNamed(int man, int nights, int mud) {
            int times = 0;
            for (int place = 0; place < army.rows; place++) {
                if (namedAt(place, nights, mud) == man) {
                    times++;
                }
            }
            return times;
        }

        int namedBits(int nights) {
            int mud = mudIn(nights);
            int bits = 0;
            for (int place = 0; place < army.rows; place++) {
                int named = namedAt(place, nights, mud);
                if (named != NONE) {
                    bits |= 1 << named;
                }
            }
            return bits;
        }

        int rightRows(int nights) {
            int mud = mudIn(nights);
            int right = 0;
            for (int place = 0; place < army.rows; place++) {
                int named = namedAt(place, nights, mud);
                if (named != NONE && holds(menAt(place, nights), named)) {
                    right++;
                }
            }
            return right;
        }

        /** HONOUR of a NIGHT is given, while all stay where they are: how many ROWS are MISTAKEN. */
        int parade(int nights, int mud) {
            int mistakes = 0;
            for (int place = 0; place < army.rows; place++) {
                int named = namedAt(place, nights, mud);
                if (named != NONE) {
                    honours.set(named, Math.min(MOST_HONOUR, honours.at(named) + 1));
                    mistakes += holds(menAt(place, nights), named) ? 0 : 1;
                }
            }
            return mistakes;
        }

        void goBy() {
            parade(0, mudIn(0));
            int ahead = rows.at(0);
            for (int place = 1; place < army.rows; place++) {
                rows.set(place - 1, rows.at(place));
            }
            rows.set(army.rows - 1, ahead);
            night++;
        }

        /** The ROWS and the NIGHT as ahead of goBy(). */
        void goBack() {
            int behind = rows.at(army.rows - 1);
            for (int place = army.rows - 1; place > 0; place--) {
                rows.set(place, rows.at(place - 1));
            }
            if (army.rows > 0) {
                rows.set(0, behind);
            }
            night--;
        }

        int honourAfter(int man, int nights) {
            int honour = honours.at(man);
            for (int ahead = 0; ahead < nights; ahead++) {
                honour += timesNamed(man, ahead, mudIn(ahead));
            }
            return Math.min(MOST_HONOUR, honour);
        }

        int honourOfAll() {
            int sum = 0;
            for (int man = 0; man < army.men; man++) {
                sum += honours.at(man);
            }
            return sum;
        }

        int mostHonoured() {
            int best = NONE;
            int greatest = -1;
            for (int man = 0; man < army.men; man++) {
                if (honours.at(man) > greatest) {
                    greatest = honours.at(man);
                    best = man;
                }
            }
            return best;
        }

        int rowOf(int man) {
            for (int place = 0; place < army.rows; place++) {
                if (holds(rows.at(place), man)) {
                    return place;
                }
            }
            return NONE;
        }

        int menInCamp() {
            int bits = army.allMen();
            for (int place = 0; place < army.rows; place++) {
                bits &= ~rows.at(place);
            }
            return bits;
        }

        boolean isFullFor(int man, int row) {
            return Integer.bitCount(rows.at(row) & ~(1 << man)) >= MOST_ABREAST;
        }

        void place(int man, int row) {
            for (int place = 0; place < army.rows; place++) {
                rows.set(place, rows.at(place) & ~(1 << man));
            }
            if (row != NONE) {
                rows.set(row, rows.at(row) | 1 << man);
            }
        }

        void turnHeel(int man, int beat) {
            treads.set(man, treads.at(man) ^ 1 << beat);
        }

        void exchange(int row, int other) {
            int men = rows.at(row);
            rows.set(row, rows.at(other));
            rows.set(other, men);
        }

        int couplesInStep() {
            int couples = 0;
            for (int place = 0; place < army.rows; place++) {
                int heard = heardAt(place, 0);
                for (int other = place + 1; other < army.rows; other++) {
                    couples += heardAt(other, 0) == heard ? 1 : 0;
                }
            }
            return couples;
        }

        int loudTogether(int row) {
            int sum = 0;
            for (int man = 0; man < army.men; man++) {
                sum += holds(rows.at(row), man) ? louds.at(man) : 0;
            }
            return sum;
        }

        int farFrom(int man, int bits) {
            return Integer.bitCount(treads.at(man) ^ bits);
        }

        int leastFar(int bits) {
            int least = MOST_BEATS + 1;
            for (int man = 0; man < army.men; man++) {
                least = Math.min(least, farFrom(man, bits));
            }
            return least;
        }

        boolean isToldApart(int set, int beats) {
            for (int man = 0; man < army.men; man++) {
                for (int other = man + 1; other < army.men; other++) {
                    if (holds(set, man) && holds(set, other) && farFrom(man, treads.at(other)) < beats) {
                        return false;
                    }
                }
            }
            return true;
        }

        int treadsTogether(int set) {
            int bits = 0;
            for (int man = 0; man < army.men; man++) {
                bits |= holds(set, man) ? treads.at(man) : 0;
            }
            return bits;
        }

        int reachedFrom(int set, int beats) {
            int reached = set;
            for (int man = 0; man < army.men; man++) {
                for (int other = 0; other < army.men; other++) {
                    if (holds(set, man) && farFrom(man, treads.at(other)) <= beats) {
                        reached |= 1 << other;
                    }
                }
            }
            return reached;
        }

        int menWithBeat(int beat) {
            int many = 0;
            for (int man = 0; man < army.men; man++) {
                many += holds(treads.at(man), beat) ? 1 : 0;
            }
            return many;
        }
    }

    /** ACTS with what takes them back, the latest last. */
    private static final class Acts {
        static final int NIGHTS = 0;
        static final int PUT = 1;
        static final int HEEL = 2;
        static final int LOUD = 3;
        static final int CHANGE = 4;

        private final Cells kinds = new Cells(MOST_ACTS);
        private final Cells ones = new Cells(MOST_ACTS);
        private final Cells twos = new Cells(MOST_ACTS);
        // HONOUR stops at a greatest number, so that it can't be counted back.
        private final Cells honours = new Cells(MOST_ACTS * MOST_MEN);
        int size = 0;

        void keep(int kind, int one, int two, March march) {
            if (size >= MOST_ACTS) {
                dropEarliest();
            }
            kinds.set(size, kind);
            ones.set(size, one);
            twos.set(size, two);
            for (int man = 0; man < MOST_MEN; man++) {
                honours.set(size * MOST_MEN + man, march.honours.at(man));
            }
            size++;
        }

        private void dropEarliest() {
            for (int i = 1; i < size; i++) {
                kinds.set(i - 1, kinds.at(i));
                ones.set(i - 1, ones.at(i));
                twos.set(i - 1, twos.at(i));
            }
            for (int i = MOST_MEN; i < size * MOST_MEN; i++) {
                honours.set(i - MOST_MEN, honours.at(i));
            }
            size--;
        }

        int takeBack(March march) {
            size--;
            int one = ones.at(size);
            int two = twos.at(size);
            switch (kinds.at(size)) {
                case NIGHTS: takeNightsBack(march, one); break;
                case PUT: march.place(one, two); break;
                case HEEL: march.turnHeel(one, two); break;
                case LOUD: march.louds.set(one, two); break;
                default: march.exchange(one, two); break;
            }
            return size;
        }

        private void takeNightsBack(March march, int many) {
            for (int i = 0; i < many; i++) {
                march.goBack();
            }
            for (int man = 0; man < MOST_MEN; man++) {
                march.honours.set(man, honours.at(size * MOST_MEN + man));
            }
        }

        void copyFrom(Acts other) {
            kinds.copyFrom(other.kinds);
            ones.copyFrom(other.ones);
            twos.copyFrom(other.twos);
            honours.copyFrom(other.honours);
            size = other.size;
        }
    }

    /** What is SEEN. */
    private static final class Sights {
        private final Cells places = new Cells(MOST_SEEN);
        private final Cells nights = new Cells(MOST_SEEN);
        private final Cells beats = new Cells(MOST_SEEN);
        private final Cells heard = new Cells(MOST_SEEN);
        int size = 0;

        int keep(int place, int night, int beat, int isHeard) {
            places.set(size, place);
            nights.set(size, night - 1);
            beats.set(size, beat);
            heard.set(size, isHeard);
            size++;
            return size;
        }

        boolean allHold(March march) {
            for (int i = 0; i < size; i++) {
                int bits = march.heardAt(places.at(i), nights.at(i));
                if ((bits >> beats.at(i) & 1) != heard.at(i)) {
                    return false;
                }
            }
            return true;
        }

        void copyFrom(Sights other) {
            places.copyFrom(other.places);
            nights.copyFrom(other.nights);
            beats.copyFrom(other.beats);
            heard.copyFrom(other.heard);
            size = other.size;
        }
    }

    /** All that an image keeps. */
    private static final class State {
        final March march;
        final Acts acts = new Acts();
        final Sights sights = new Sights();

        State(Army army) {
            march = new March(army);
        }

        void copyFrom(State other) {
            march.copyFrom(other.march);
            acts.copyFrom(other.acts);
            sights.copyFrom(other.sights);
        }
    }

    /** MEN and BEATS by which one may have LIMPED. */
    private static final class Suspects {
        final Cells men = new Cells(MOST_MEN * MOST_BEATS);
        final Cells beats = new Cells(MOST_MEN * MOST_BEATS);
        private final Cells sounds = new Cells(MOST_MEN * MOST_BEATS);
        int size = 0;

        void gather(March trial, Sights sights) {
            size = 0;
            for (int man = 0; man < trial.army.men; man++) {
                for (int beat = 0; beat < trial.army.beats; beat++) {
                    trial.turnHeel(man, beat);
                    if (sights.allHold(trial)) {
                        men.set(size, man);
                        beats.set(size, beat);
                        size++;
                    }
                    trial.turnHeel(man, beat);
                }
            }
        }

        /** How many unlike HEARD a ROW of the next NIGHT has by these. */
        int unlikeSounds(March trial, int place) {
            int unlike = 0;
            for (int i = 0; i < size; i++) {
                trial.turnHeel(men.at(i), beats.at(i));
                int sound = trial.heardAt(place, 0);
                trial.turnHeel(men.at(i), beats.at(i));
                if (!isAmong(sound, unlike)) {
                    sounds.set(unlike, sound);
                    unlike++;
                }
            }
            return unlike;
        }

        private boolean isAmong(int sound, int many) {
            for (int i = 0; i < many; i++) {
                if (sounds.at(i) == sound) {
                    return true;
                }
            }
            return false;
        }
    }

    /** A REVIEW: the orders of ROWS, place by place. */
    private static final class Orders {
        private static final int SETS = 1 << MOST_ORDERED;

        // By a ROW and those beside it; NONE where it is not known yet.
        private final Cells right = new Cells(MOST_ORDERED * SETS);
        private final Cells order = new Cells(MOST_ORDERED);
        final Cells best = new Cells(MOST_ORDERED);
        int mostRight = NONE;

        void seek(March march) {
            right.fill(NONE);
            mostRight = NONE;
            tryFrom(march, 0, 0, 0);
        }

        /** So many ROWS are RIGHT ahead of the one at the place ahead of this. */
        private void tryFrom(March march, int place, int used, int many) {
            int rows = Math.min(march.army.rows, MOST_ORDERED);
            if (place >= rows) {
                keepBetter(many + rightAt(march, place - 1, 0));
                return;
            }
            for (int row = 0; row < rows; row++) {
                if (!holds(used, row)) {
                    int more = rightAt(march, place - 1, 1 << row);
                    order.set(place, row);
                    tryFrom(march, place + 1, used | 1 << row, many + more);
                }
            }
        }

        private void keepBetter(int many) {
            if (many > mostRight) {
                mostRight = many;
                best.copyFrom(order);
            }
        }

        /** 1, if the ROW at a place is RIGHT with these ROWS (bits) behind it. */
        private int rightAt(March march, int place, int behind) {
            if (place < 0) {
                return 0;
            }
            int row = order.at(place);
            int beside = behind | (place == 0 ? 0 : 1 << order.at(place - 1));
            int known = right.at(row * SETS + beside);
            if (known != NONE) {
                return known;
            }
            int others = 0;
            for (int other = 0; other < march.army.rows; other++) {
                others |= holds(beside, other) ? march.rows.at(other) : 0;
            }
            int men = march.rows.at(row);
            int named = march.namedBy(march.heard(men, others, march.mudIn(0)));
            int isRight = named != NONE && holds(men, named) ? 1 : 0;
            right.set(row * SETS + beside, isRight);
            return isRight;
        }
    }

    /** Reads a TEXT into an army and a march of its own, so that all stays as it is with a FAULT. */
    private static final class Reader {
        private static final int END = 0;
        private static final int NUMBER = 1;
        private static final int WORD = 2;
        private static final int SIGN = 3;
        private static final int NOTHING = 4;

        private static final int MISPLACED = 1;
        private static final int TOO_MUCH = 2;
        private static final int UNKNOWN = 3;
        private static final int TAKEN = 4;
        private static final int SECOND = 5;

        private static final int MOST_DIGITS = 4;
        private static final int MOST_NUMBER = 9999;
        private static final int MOST_TREAD = 4095;
        private static final int MOST_WITHIN = 6;
        private static final int MOST_NOTS = 6;
        private static final int NO_VALUE = 0;

        final Army army = new Army();
        final March march = new March(army);
        int faultKind = 0;
        int faultPlace = NONE;
        private final Cells text;
        private int length = 0;
        private int place = 0;
        private int kind = END;
        private int start = 0;
        private int number = 0;
        private int toldOnce = 0;
        private int marching = 0;

        Reader(Cells tape) {
            text = tape;
        }

        /** The FAULT of the tape's first n bytes; 0 without. */
        int readArmy(int n) {
            length = n;
            place = 0;
            toldOnce = 0;
            marching = 0;
            faultKind = 0;
            faultPlace = NONE;
            army.clear();
            march.clear();
            advance();
            for (int lines = 0; lines <= n && faultKind == 0 && kind != END; lines++) {
                readLine();
            }
            for (int man = 0; man < army.men; man++) {
                march.treads.set(man, march.treads.at(man) & army.allBeats());
            }
            return faultKind;
        }

        private void readLine() {
            if (isWord("man")) {
                readMan();
            } else if (isWord("row")) {
                readRow();
            } else if (isWord("beats")) {
                passOnce(1);
                army.beats = take(4, MOST_BEATS);
            } else if (isWord("slack")) {
                passOnce(2);
                army.slack = take(0, MOST_BEATS);
            } else if (isWord("mud")) {
                passOnce(4);
                readMuds();
            } else if (isWord("hears")) {
                passOnce(8);
                readExpr(0);
            } else {
                fail(MISPLACED);
            }
            pass(';');
        }

        private void readMan() {
            if (army.men >= MOST_MEN) {
                fail(TOO_MUCH);
                return;
            }
            advance();
            march.treads.set(army.men, take(0, MOST_TREAD));
            march.louds.set(army.men, take(1, MOST_LOUD));
            army.men++;
        }

        private void readRow() {
            if (army.rows >= MOST_ROWS) {
                fail(TOO_MUCH);
                return;
            }
            advance();
            int men = 0;
            for (int abreast = 0; abreast <= MOST_ABREAST && isNumberNext(abreast); abreast++) {
                men |= takeMan(abreast);
            }
            march.rows.set(army.rows, men);
            army.rows++;
        }

        /** The MAN's bit; 0 with a FAULT. */
        private int takeMan(int abreast) {
            if (abreast >= MOST_ABREAST) {
                fail(TOO_MUCH);
            }
            int man = peek(0, MOST_NUMBER);
            if (man >= army.men) {
                fail(UNKNOWN);
            } else if (holds(marching, man)) {
                fail(TAKEN);
            }
            if (faultKind != 0) {
                return 0;
            }
            marching |= 1 << man;
            advance();
            return 1 << man;
        }

        private void readMuds() {
            for (int many = 0; many <= MOST_MUDS && isNumberNext(many); many++) {
                if (many >= MOST_MUDS) {
                    fail(TOO_MUCH);
                }
                army.mud.set(many, take(0, 9));
                army.muds = many + 1;
            }
        }

        /** One number must stand in a row of them; more may. */
        private boolean isNumberNext(int many) {
            return faultKind == 0 && (many == 0 || kind == NUMBER);
        }

        private void passOnce(int bit) {
            if ((toldOnce & bit) != 0) {
                fail(SECOND);
            }
            toldOnce |= bit;
            advance();
        }

        private void readExpr(int within) {
            if (within >= MOST_WITHIN) {
                fail(kind == NUMBER || kind == WORD || isSign('(') ? TOO_MUCH : MISPLACED);
                return;
            }
            readAnd(within);
            for (int i = 0; i < length && isWord("or"); i++) {
                advance();
                readAnd(within);
                army.rule.add(Rule.OR);
            }
        }

        private void readAnd(int within) {
            readNot(within);
            for (int i = 0; i < length && isWord("and"); i++) {
                advance();
                readNot(within);
                army.rule.add(Rule.AND);
            }
        }

        private void readNot(int within) {
            int nots = 0;
            for (int i = 0; i < MOST_NOTS && isWord("not"); i++) {
                nots++;
                advance();
            }
            if (isWord("not")) {
                fail(TOO_MUCH);
            }
            readTest(within);
            for (int i = 0; i < nots; i++) {
                army.rule.add(Rule.NOT);
            }
        }

        private void readTest(int within) {
            readSum(within);
            if (isSign('<') || isSign('=')) {
                int code = isSign('<') ? Rule.LESS : Rule.SAME;
                advance();
                readSum(within);
                army.rule.add(code);
            }
        }

        private void readSum(int within) {
            readProduct(within);
            for (int i = 0; i < length && (isSign('+') || isSign('-')); i++) {
                int code = isSign('+') ? Rule.PLUS : Rule.MINUS;
                advance();
                readProduct(within);
                army.rule.add(code);
            }
        }

        private void readProduct(int within) {
            readPart(within);
            for (int i = 0; i < length && (isSign('*') || isSign('/')); i++) {
                int code = isSign('*') ? Rule.TIMES : Rule.OVER;
                advance();
                readPart(within);
                army.rule.add(code);
            }
        }

        private void readPart(int within) {
            if (faultKind != 0) {
                return;
            }
            if (isSign('(')) {
                advance();
                readExpr(within + 1);
                pass(')');
            } else if (kind == WORD) {
                readValue();
            } else {
                army.rule.add(take(0, MOST_NUMBER));
            }
        }

        private void readValue() {
            int value = valueHere();
            if (value == NO_VALUE) {
                fail(UNKNOWN);
                return;
            }
            army.rule.add(value);
            advance();
        }

        private int valueHere() {
            if (isWord("sum")) {
                return Rule.SUM;
            }
            if (isWord("others")) {
                return Rule.OTHERS;
            }
            if (isWord("mud")) {
                return Rule.MUD;
            }
            if (isWord("beat")) {
                return Rule.BEAT;
            }
            if (isWord("many")) {
                return Rule.MANY;
            }
            return isWord("last") ? Rule.LAST : NO_VALUE;
        }

        /** The NUMBER that must stand here, looked at; 0 with a FAULT. */
        private int peek(int least, int greatest) {
            if (kind != NUMBER) {
                fail(MISPLACED);
                return 0;
            }
            if (place - start > MOST_DIGITS || number < least || number > greatest) {
                fail(TOO_MUCH);
                return 0;
            }
            return number;
        }

        private int take(int least, int greatest) {
            int taken = peek(least, greatest);
            advance();
            return taken;
        }

        private void pass(int sign) {
            if (!isSign(sign)) {
                fail(MISPLACED);
            }
            advance();
        }

        /** Only the first FAULT counts: behind it nothing goes on, as advance() stands still. */
        private void fail(int kindOfFault) {
            if (faultKind == 0) {
                faultKind = kindOfFault;
                faultPlace = start;
            }
        }

        private boolean isSign(int sign) {
            return faultKind == 0 && kind == SIGN && text.at(start) == sign;
        }

        private boolean isWord(String word) {
            if (faultKind != 0 || kind != WORD || place - start != word.length()) {
                return false;
            }
            for (int i = 0; i < word.length(); i++) {
                if (text.at(start + i) != word.charAt(i)) {
                    return false;
                }
            }
            return true;
        }

        /** The next TOKEN. */
        private void advance() {
            if (faultKind != 0) {
                return;
            }
            while (place < length && isBlank(text.at(place))) {
                place++;
            }
            start = place;
            number = 0;
            int sign = text.at(place);
            if (place >= length) {
                kind = END;
            } else if (isDigit(sign)) {
                kind = NUMBER;
                while (place < length && isDigit(text.at(place))) {
                    number = Math.min(10 * number + text.at(place) - '0', MOST_NUMBER + 1);
                    place++;
                }
            } else if (isLetter(sign)) {
                kind = WORD;
                while (place < length && isLetter(text.at(place))) {
                    place++;
                }
            } else {
                kind = ";()+-*/<=".indexOf((char) sign) >= 0 ? SIGN : NOTHING;
                place++;
            }
        }

        private static boolean isBlank(int sign) {
            return sign == 32 || sign == 10;
        }

        private static boolean isDigit(int sign) {
            return sign >= '0' && sign <= '9';
        }

        private static boolean isLetter(int sign) {
            return sign >= 'a' && sign <= 'z';
        }
    }
}
