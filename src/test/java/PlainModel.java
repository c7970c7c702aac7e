import java.util.ArrayList;
import java.util.HashSet;
import java.util.LinkedHashSet;
import java.util.List;
import java.util.Map;
import java.util.HashMap;
import java.util.NoSuchElementException;
import java.util.Set;
import java.util.TreeSet;

/**
 * The document once more, in the plainest and slowest form: lists and sets, nights that really go by on copies,
 * ACTS that keep the whole state. ModelTest compares the class with it.
 */
public final class PlainModel {
    /** A rule or a part of one. */
    interface Expr {
        int of(Map<String, Integer> values);
    }

    /** What changes. */
    static final class State {
        int night;
        List<Integer> tread = new ArrayList<>();
        List<Integer> loud = new ArrayList<>();
        List<Integer> honour = new ArrayList<>();
        List<Set<Integer>> rows = new ArrayList<>();

        State copy() {
            State s = new State();
            s.night = night;
            s.tread.addAll(tread);
            s.loud.addAll(loud);
            s.honour.addAll(honour);
            for (Set<Integer> row : rows) {
                s.rows.add(new TreeSet<>(row));
            }
            return s;
        }
    }

    private int beats = 8;
    private int slack = 2;
    private List<Integer> muds = List.of(2);
    private Expr hears = null;
    private State s = new State();
    private List<State> acts = new ArrayList<>();
    private List<int[]> seen = new ArrayList<>();
    private State imageState;
    private List<State> imageActs;
    private List<int[]> imageSeen;
    private final StringBuilder tape = new StringBuilder();
    private int faultPlace = -1;
    private final int[] status = new int[3];

    // ---- the text

    static final class Fault extends Exception {
        private static final long serialVersionUID = 1;
        final int kind;
        final int place;

        Fault(int kind, int place) {
            this.kind = kind;
            this.place = place;
        }
    }

    private static final class Token {
        final char kind; // w word, n number, s sign, x none, e end
        final String text;
        final int place;

        Token(char kind, String text, int place) {
            this.kind = kind;
            this.text = text;
            this.place = place;
        }
    }

    private static List<Token> tokens(String text) {
        List<Token> all = new ArrayList<>();
        java.util.regex.Matcher m =
            java.util.regex.Pattern.compile("[a-z]+|[0-9]+|[;()+*/<=-]|[ \n]+|.", java.util.regex.Pattern.DOTALL)
                .matcher(text);
        while (m.find()) {
            String t = m.group();
            char c = t.charAt(0);
            if (c == ' ' || c == '\n') {
                continue;
            }
            char kind = c >= 'a' && c <= 'z' ? 'w' : c >= '0' && c <= '9' ? 'n' : ";()+*/<=-".indexOf(c) >= 0 ? 's' : 'x';
            all.add(new Token(kind, t, m.start()));
        }
        all.add(new Token('e', "", text.length()));
        return all;
    }

    private static final class Draft {
        int beats = 8;
        int slack = 2;
        List<Integer> muds = List.of(2);
        Expr hears = null;
        final State s = new State();
        final Set<String> once = new HashSet<>();
        final Set<Integer> marching = new HashSet<>();
        private final List<Token> tokens;
        private int at = 0;

        Draft(String text) throws Fault {
            tokens = tokens(text);
            while (here().kind != 'e') {
                line();
            }
            for (int i = 0; i < s.tread.size(); i++) {
                s.tread.set(i, s.tread.get(i) % (1 << beats));
            }
        }

        private Token here() {
            return tokens.get(at);
        }

        private void must(boolean holds, int kind) throws Fault {
            if (!holds) {
                throw new Fault(kind, here().place);
            }
        }

        private int number(int least, int most) throws Fault {
            must(here().kind == 'n', 1);
            must(here().text.length() <= 4, 2);
            int n = Integer.parseInt(here().text);
            must(n >= least && n <= most, 2);
            at++;
            return n;
        }

        private void sign(String sign) throws Fault {
            must(here().kind == 's' && here().text.equals(sign), 1);
            at++;
        }

        private void line() throws Fault {
            must(here().kind == 'w' && List.of("beats", "man", "row", "mud", "slack", "hears").contains(here().text), 1);
            String word = here().text;
            if (word.equals("man")) {
                must(s.tread.size() < 8, 2);
            } else if (word.equals("row")) {
                must(s.rows.size() < 8, 2);
            } else {
                must(once.add(word), 5);
            }
            at++;
            switch (word) {
                case "beats": beats = number(4, 12); break;
                case "slack": slack = number(0, 12); break;
                case "hears": hears = expr(0); break;
                case "man":
                    s.tread.add(number(0, 4095));
                    s.loud.add(number(1, 9));
                    s.honour.add(0);
                    break;
                case "mud":
                    muds = new ArrayList<>();
                    do {
                        must(here().kind != 'n' || muds.size() < 8, 2);
                        muds.add(number(0, 9));
                    } while (here().kind == 'n');
                    break;
                default: row();
            }
            sign(";");
        }

        private void row() throws Fault {
            Set<Integer> men = new TreeSet<>();
            do {
                must(here().kind == 'n', 1);
                must(men.size() < 4 && here().text.length() <= 4, 2);
                int man = Integer.parseInt(here().text);
                must(man < s.tread.size(), 3);
                must(marching.add(man), 4);
                men.add(man);
                at++;
            } while (here().kind == 'n');
            s.rows.add(men);
        }

        private static final List<List<String>> LEVELS =
            List.of(List.of("or"), List.of("and"), List.of("not"), List.of("<", "="), List.of("+", "-"), List.of("*", "/"));

        private Expr expr(int within) throws Fault {
            if (within == 6) {
                must(here().kind != 'n' && here().kind != 'w' && !here().text.equals("("), 2);
                must(false, 1);
            }
            return level(0, within);
        }

        private Expr level(int level, int within) throws Fault {
            if (level == 6) {
                return part(within);
            }
            if (level == 2) {
                int nots = 0;
                while (here().text.equals("not")) {
                    must(nots < 6, 2);
                    nots++;
                    at++;
                }
                Expr of = level(3, within);
                for (; nots > 0; nots--) {
                    Expr inner = of;
                    of = v -> inner.of(v) == 0 ? 1 : 0;
                }
                return of;
            }
            Expr left = level(level + 1, within);
            while (LEVELS.get(level).contains(here().text)) {
                String op = here().text;
                at++;
                Expr a = left;
                Expr b = level(level + 1, within);
                left = v -> join(op, a.of(v), b.of(v));
                if (level == 3) {
                    break;
                }
            }
            return left;
        }

        private static int join(String op, int a, int b) {
            switch (op) {
                case "or": return a != 0 | b != 0 ? 1 : 0;
                case "and": return a != 0 & b != 0 ? 1 : 0;
                case "<": return a < b ? 1 : 0;
                case "=": return a == b ? 1 : 0;
                case "+": return a + b;
                case "-": return a - b;
                case "*": return a * b;
                default: return b == 0 ? 0 : (int) ((long) a / b);
            }
        }

        private Expr part(int within) throws Fault {
            Token t = here();
            if (t.kind == 'n') {
                int n = number(0, 9999);
                return v -> n;
            }
            if (t.text.equals("(")) {
                at++;
                Expr inner = expr(within + 1);
                sign(")");
                return inner;
            }
            must(t.kind == 'w', 1);
            must(List.of("sum", "others", "mud", "beat", "many", "last").contains(t.text), 3);
            at++;
            return v -> v.get(t.text);
        }
    }

    public int feed(int a, int b, int c, int d, int e) {
        if (tape.length() + 20 > 700) {
            return -1;
        }
        for (int n : new int[] {a, b, c, d, e}) {
            for (int k = 3; k >= 0; k--) {
                tape.append((char) (n >>> 8 * k & 255));
            }
        }
        return tape.length();
    }

    public int army(int n) {
        if (n < 0 || n > tape.length()) {
            throw new IllegalArgumentException();
        }
        String text = tape.substring(0, n);
        tape.setLength(0);
        try {
            Draft d = new Draft(text);
            beats = d.beats;
            slack = d.slack;
            muds = d.muds;
            hears = d.hears;
            s = d.s;
            acts = new ArrayList<>();
            seen = new ArrayList<>();
            imageState = null;
            faultPlace = -1;
            return 0;
        } catch (Fault f) {
            faultPlace = f.place;
            status[0]++;
            return f.kind;
        }
    }

    public int fault() {
        return faultPlace;
    }

    // ---- what is heard

    private int loudAt(State t, int row, int beat) {
        int sum = 0;
        if (row >= 0 && row < t.rows.size()) {
            for (int m : t.rows.get(row)) {
                if ((t.tread.get(m) & 1 << beat) != 0) {
                    sum += t.loud.get(m);
                }
            }
        }
        return sum;
    }

    private int mudOf(State t) {
        return muds.get(t.night % muds.size());
    }

    private int heard(State t, int row, int mud) {
        int bits = 0;
        for (int b = 0; b < beats; b++) {
            int sum = loudAt(t, row, b);
            boolean is = sum > mud;
            if (hears != null) {
                Map<String, Integer> v = new HashMap<>();
                v.put("sum", sum);
                v.put("others", loudAt(t, row - 1, b) + loudAt(t, row + 1, b));
                v.put("mud", mud);
                v.put("beat", b);
                v.put("many", t.rows.get(row).size());
                v.put("last", b > 0 && (bits & 1 << b - 1) != 0 ? 1 : 0);
                is = hears.of(v) > 0;
            }
            if (is) {
                bits |= 1 << b;
            }
        }
        return bits;
    }

    private int heard(State t, int row) {
        return heard(t, row, mudOf(t));
    }

    private int named(State t, int bits) {
        for (int d = 0; d <= slack; d++) {
            for (int m = 0; m < t.tread.size(); m++) {
                if (Integer.bitCount(t.tread.get(m) ^ bits) == d) {
                    return m;
                }
            }
        }
        return -1;
    }

    private List<Integer> namedAll(State t, int mud) {
        List<Integer> all = new ArrayList<>();
        for (int r = 0; r < t.rows.size(); r++) {
            all.add(named(t, heard(t, r, mud)));
        }
        return all;
    }

    private int right(State t) {
        int n = 0;
        List<Integer> all = namedAll(t, mudOf(t));
        for (int r = 0; r < all.size(); r++) {
            n += t.rows.get(r).contains(all.get(r)) ? 1 : 0;
        }
        return n;
    }

    private void night(State t, int mud) {
        for (int m : namedAll(t, mud)) {
            if (m >= 0 && t.honour.get(m) < 99) {
                t.honour.set(m, t.honour.get(m) + 1);
            }
        }
        if (!t.rows.isEmpty()) {
            t.rows.add(t.rows.remove(0));
        }
        t.night++;
    }

    private State later(int nights) {
        State t = s.copy();
        for (int i = 0; i < nights; i++) {
            night(t, mudOf(t));
        }
        return t;
    }

    private int rowOf(State t, int man) {
        for (int r = 0; r < t.rows.size(); r++) {
            if (t.rows.get(r).contains(man)) {
                return r;
            }
        }
        return -1;
    }

    private void place(State t, int man, int row) {
        t.rows.forEach(r -> r.remove(man));
        if (row >= 0) {
            t.rows.get(row).add(man);
        }
    }

    private static int bits(Iterable<Integer> set) {
        int bits = 0;
        for (int i : set) {
            bits |= 1 << i;
        }
        return bits;
    }

    // ---- what must be

    private void element(boolean is) {
        if (!is) {
            throw new NoSuchElementException();
        }
    }

    private void argument(boolean is) {
        if (!is) {
            throw new IllegalArgumentException();
        }
    }

    private boolean isMan(int m) {
        return m >= 0 && m < s.tread.size();
    }

    private boolean isRow(int r) {
        return r >= 0 && r < s.rows.size();
    }

    private boolean isIn(int n, int least, int most) {
        return n >= least && n <= most;
    }

    // ---- state

    public int count(int what) {
        element(isIn(what, 0, 14));
        switch (what) {
            case 0: return beats;
            case 1: return s.tread.size();
            case 2: return s.rows.size();
            case 3: return slack;
            case 4: return s.night;
            case 5: return mudOf(s);
            case 6: return s.honour.stream().mapToInt(Integer::intValue).sum();
            case 7:
                Set<Integer> camp = new TreeSet<>();
                for (int m = 0; m < s.tread.size(); m++) {
                    if (rowOf(s, m) < 0) {
                        camp.add(m);
                    }
                }
                return bits(camp);
            case 8:
                int couples = 0;
                for (int a = 0; a < s.rows.size(); a++) {
                    for (int b = 0; b < a; b++) {
                        couples += heard(s, a) == heard(s, b) ? 1 : 0;
                    }
                }
                return couples;
            case 9: return acts.size();
            case 10: return seen.size();
            case 11: return tape.length();
            default: return status[what - 12];
        }
    }

    public int man(int man, int what) {
        element(isMan(man) && isIn(what, 0, 3));
        return what == 0 ? s.tread.get(man) : what == 1 ? s.loud.get(man) : what == 2 ? s.honour.get(man) : rowOf(s, man);
    }

    public int row(int row, int what) {
        element(isRow(row) && isIn(what, 0, 2));
        return what == 0 ? bits(s.rows.get(row)) : what == 1 ? heard(s, row) : named(s, heard(s, row));
    }

    // ---- acts

    private void act() {
        acts.add(s.copy());
        if (acts.size() > 40) {
            acts.remove(0);
        }
    }

    private int refused(int which, int answer) {
        status[which]++;
        return answer;
    }

    public int nights(int many) {
        if (!isIn(many, 1, 20) || s.night + many > 999) {
            return refused(1, -1);
        }
        act();
        s = later(many);
        return s.night;
    }

    public int put(int man, int row) {
        element(isMan(man) && (row == -1 || isRow(row)));
        int was = rowOf(s, man);
        if (was == row || row >= 0 && s.rows.get(row).size() == 4) {
            return refused(1, -2);
        }
        act();
        place(s, man, row);
        return was;
    }

    public int heel(int man, int beat) {
        element(isMan(man) && isIn(beat, 0, beats - 1));
        act();
        s.tread.set(man, s.tread.get(man) ^ 1 << beat);
        return s.tread.get(man);
    }

    public int loud(int man, int loud) {
        element(isMan(man));
        if (!isIn(loud, 1, 9)) {
            return refused(1, -1);
        }
        act();
        return s.loud.set(man, loud);
    }

    public boolean change(int row, int other) {
        element(isRow(row) && isRow(other));
        if (row == other) {
            refused(1, 0);
            return false;
        }
        act();
        java.util.Collections.swap(s.rows, row, other);
        return true;
    }

    public int undo() {
        if (acts.isEmpty()) {
            return -1;
        }
        s = acts.remove(acts.size() - 1).copy();
        return acts.size();
    }

    // ---- from now on

    public int then(int row, int nights, int what) {
        element(isRow(row) && isIn(what, 0, 1));
        argument(isIn(nights, 0, 40));
        State t = later(nights);
        return what == 0 ? heard(t, row) : named(t, heard(t, row));
    }

    public int honour(int man, int nights) {
        element(isMan(man));
        argument(isIn(nights, 0, 40));
        return later(nights).honour.get(man);
    }

    public int first(int man) {
        element(isMan(man));
        for (int k = 1; k <= 40; k++) {
            State t = later(k - 1);
            if (namedAll(t, mudOf(t)).contains(man)) {
                return k;
            }
        }
        return -1;
    }

    public int mistaken(int k) {
        argument(isIn(k, 1, 40));
        State t = later(k - 1);
        List<Integer> all = namedAll(t, mudOf(t));
        Set<Integer> rows = new TreeSet<>();
        for (int r = 0; r < all.size(); r++) {
            if (all.get(r) >= 0 && !t.rows.get(r).contains(all.get(r))) {
                rows.add(r);
            }
        }
        return bits(rows);
    }

    public int unsung(int nights) {
        argument(isIn(nights, 1, 40));
        Set<Integer> men = new TreeSet<>();
        for (int m = 0; m < s.tread.size(); m++) {
            int k = first(m);
            if (k < 0 || k > nights) {
                men.add(m);
            }
        }
        return bits(men);
    }

    public int most(int nights) {
        argument(isIn(nights, 1, 40));
        return mostOf(later(nights));
    }

    private int mostOf(State t) {
        return t.honour.isEmpty() ? -1 : t.honour.indexOf(java.util.Collections.max(t.honour));
    }

    public int often(int nights, int what) {
        element(isIn(what, 0, 1));
        argument(isIn(nights, 1, 40));
        int n = 0;
        for (int k = 0; k < nights; k++) {
            State t = later(k);
            n += what == 1 ? right(t) : (int) namedAll(t, mudOf(t)).stream().filter(m -> m < 0).count();
        }
        return n;
    }

    // ---- treads

    private int apartBy(int a, int b) {
        return Integer.bitCount(s.tread.get(a) ^ s.tread.get(b));
    }

    public int far(int man, int other) {
        element(isMan(man) && isMan(other));
        return apartBy(man, other);
    }

    public int nearest() {
        for (int d = 0; d <= 12; d++) {
            for (int a = 0; a < s.tread.size(); a++) {
                for (int b = a + 1; b < s.tread.size(); b++) {
                    if (apartBy(a, b) == d) {
                        return 10 * a + b;
                    }
                }
            }
        }
        return -1;
    }

    private static Set<Integer> members(int bits) {
        Set<Integer> all = new LinkedHashSet<>();
        for (int i = 0; i < 12; i++) {
            if ((bits & 1 << i) != 0) {
                all.add(i);
            }
        }
        return all;
    }

    public int apart(int far) {
        argument(isIn(far, 1, 12));
        for (int size = s.tread.size(); size > 0; size--) {
            for (int set = 0; set < 1 << s.tread.size(); set++) {
                Set<Integer> men = members(set);
                boolean ok = men.size() == size;
                for (int a : men) {
                    for (int b : men) {
                        ok &= a == b || apartBy(a, b) >= far;
                    }
                }
                if (ok) {
                    return set;
                }
            }
        }
        return 0;
    }

    public int tread(int what) {
        element(isIn(what, 0, 1));
        if (s.tread.isEmpty()) {
            return -1;
        }
        for (int d = 12; ; d--) {
            for (int t = 0; t < 1 << beats; t++) {
                boolean ok = true;
                for (int other : s.tread) {
                    ok &= Integer.bitCount(other ^ t) >= d;
                }
                if (ok) {
                    return what == 0 ? d : t;
                }
            }
        }
    }

    public int nextTo(int bits) {
        argument(isIn(bits, 0, (1 << beats) - 1));
        return named(s, bits);
    }

    public int alike(int bits) {
        argument(isIn(bits, 0, (1 << beats) - 1));
        for (int d = 0; d <= 12; d++) {
            Set<Integer> men = new TreeSet<>();
            for (int m = 0; m < s.tread.size(); m++) {
                if (Integer.bitCount(s.tread.get(m) ^ bits) == d) {
                    men.add(m);
                }
            }
            if (!men.isEmpty()) {
                return bits(men);
            }
        }
        return 0;
    }

    public int step() {
        int all = 0;
        for (int t : s.tread) {
            all |= t;
        }
        for (int size = 0; ; size++) {
            for (int set = 0; set < 1 << s.tread.size(); set++) {
                int together = 0;
                for (int m : members(set)) {
                    together |= s.tread.get(m);
                }
                if (Integer.bitCount(set) == size && together == all) {
                    return set;
                }
            }
        }
    }

    public int chain(int man, int other, int far) {
        element(isMan(man) && isMan(other));
        argument(isIn(far, 1, 12));
        int[] steps = new int[s.tread.size()];
        java.util.Arrays.fill(steps, 99);
        steps[man] = 0;
        for (int round = 0; round < 10; round++) {
            for (int a = 0; a < steps.length; a++) {
                for (int b = 0; b < steps.length; b++) {
                    if (apartBy(a, b) <= far) {
                        steps[b] = Math.min(steps[b], steps[a] + 1);
                    }
                }
            }
        }
        return steps[other] >= 99 ? -1 : steps[other];
    }

    public int run(int man) {
        element(isMan(man));
        int n = 0;
        for (String ones : Integer.toBinaryString(s.tread.get(man)).split("0")) {
            n = Math.max(n, ones.length());
        }
        return n;
    }

    public int rarest() {
        for (int n = 0; ; n++) {
            for (int b = 0; b < beats; b++) {
                int bit = 1 << b;
                if (s.tread.stream().filter(t -> (t & bit) != 0).count() == n) {
                    return b;
                }
            }
        }
    }

    // ---- were it otherwise

    private Integer namedIfPut(int man, int row) {
        State t = s.copy();
        place(t, man, row);
        return t.rows.get(row).size() > 4 ? null : Integer.valueOf(named(t, heard(t, row)));
    }

    public int passes(int man, int other) {
        element(isMan(man) && isMan(other));
        for (int r = 0; r < s.rows.size() && man != other; r++) {
            Integer n = namedIfPut(man, r);
            if (n != null && n == other) {
                return r;
            }
        }
        return -1;
    }

    public int hidden(int man) {
        element(isMan(man));
        Set<Integer> rows = new TreeSet<>();
        for (int r = 0; r < s.rows.size(); r++) {
            Integer n = namedIfPut(man, r);
            if (n != null && n != man) {
                rows.add(r);
            }
        }
        return bits(rows);
    }

    public int toSock(int man) {
        element(isMan(man));
        int best = -1;
        for (int l = 1; l <= 9 && rowOf(s, man) >= 0; l++) {
            State t = s.copy();
            t.loud.set(man, l);
            if (!namedAll(t, mudOf(t)).contains(man)) {
                best = l;
            }
        }
        return best;
    }

    private void orders(List<Integer> begun, List<List<Integer>> all) {
        if (begun.size() == s.rows.size()) {
            all.add(new ArrayList<>(begun));
        }
        for (int r = 0; r < s.rows.size(); r++) {
            if (!begun.contains(r)) {
                begun.add(r);
                orders(begun, all);
                begun.remove(begun.size() - 1);
            }
        }
    }

    public int review(int i) {
        element(i == -1 || isRow(i));
        if (s.rows.size() > 6) {
            return -2;
        }
        List<List<Integer>> all = new ArrayList<>();
        orders(new ArrayList<>(), all);
        int best = -1;
        List<Integer> first = null;
        for (List<Integer> order : all) {
            State t = s.copy();
            t.rows.clear();
            order.forEach(r -> t.rows.add(s.rows.get(r)));
            int n = right(t);
            if (n > best) {
                best = n;
                first = order;
            }
        }
        return i == -1 ? best : first.get(i);
    }

    public int lost(int man) {
        element(isMan(man));
        int r = rowOf(s, man);
        return s.tread.get(man) & ~(r < 0 ? 0 : heard(s, r));
    }

    public int mates(int man) {
        element(isMan(man));
        int r = rowOf(s, man);
        Set<Integer> men = new TreeSet<>(r < 0 ? Set.of() : s.rows.get(r));
        men.remove(man);
        return bits(men);
    }

    public int spoilt(int man) {
        element(isMan(man));
        State t = s.copy();
        place(t, man, -1);
        return right(t) - right(s);
    }

    public int reform(int man, int what) {
        element(isMan(man) && isIn(what, 0, 1));
        int r = rowOf(s, man);
        for (int d = 0; d <= beats && r >= 0; d++) {
            for (int tread = 0; tread < 1 << beats; tread++) {
                if (Integer.bitCount(tread ^ s.tread.get(man)) == d) {
                    State t = s.copy();
                    t.tread.set(man, tread);
                    if (named(t, heard(t, r)) == man) {
                        return what == 0 ? d : tread;
                    }
                }
            }
        }
        return -1;
    }

    public int swap() {
        int best = -1;
        int most = right(s);
        for (int a = 0; a < s.rows.size(); a++) {
            for (int b = a + 1; b < s.rows.size(); b++) {
                State t = s.copy();
                java.util.Collections.swap(t.rows, a, b);
                if (right(t) > most) {
                    most = right(t);
                    best = 10 * a + b;
                }
            }
        }
        return best;
    }

    public int loudest() {
        int best = -1;
        int most = -1;
        for (int r = 0; r < s.rows.size(); r++) {
            int n = s.rows.get(r).stream().mapToInt(m -> s.loud.get(m)).sum();
            if (n > most) {
                most = n;
                best = r;
            }
        }
        return best;
    }

    // ---- what was seen

    public int see(int row, int k, int beat, boolean is) {
        element(isRow(row) && isIn(beat, 0, beats - 1));
        if (seen.size() == 8 || !isIn(k, 1, 12)) {
            return refused(2, -1);
        }
        seen.add(new int[] {row, k, beat, is ? 1 : 0});
        return seen.size();
    }

    public void forget() {
        seen = new ArrayList<>();
    }

    private boolean allSo(State from) {
        for (int[] x : seen) {
            State t = from.copy();
            for (int i = 1; i < x[1]; i++) {
                night(t, mudOf(t));
            }
            if ((heard(t, x[0]) >> x[2] & 1) != x[3]) {
                return false;
            }
        }
        return true;
    }

    private List<int[]> limps() {
        List<int[]> all = new ArrayList<>();
        for (int m = 0; m < s.tread.size(); m++) {
            for (int b = 0; b < beats; b++) {
                if (allSo(limping(m, b))) {
                    all.add(new int[] {m, b});
                }
            }
        }
        return all;
    }

    private State limping(int man, int beat) {
        State t = s.copy();
        t.tread.set(man, t.tread.get(man) ^ 1 << beat);
        return t;
    }

    public int limped(int what) {
        element(isIn(what, 0, 2));
        List<int[]> all = limps();
        return what == 0 ? all.size() : what == 2 ? allSo(s) ? 1 : 0 : all.isEmpty() ? -1 : 100 * all.get(0)[0] + all.get(0)[1];
    }

    public int next(int what) {
        element(isIn(what, 0, 1));
        int best = -1;
        int most = 0;
        List<int[]> all = limps();
        for (int r = 0; r < s.rows.size(); r++) {
            Set<Integer> sounds = new HashSet<>();
            for (int[] x : all) {
                sounds.add(heard(limping(x[0], x[1]), r));
            }
            if (sounds.size() > most) {
                most = sounds.size();
                best = r;
            }
        }
        return what == 0 ? best : most;
    }

    // ---- chance

    public int byMud(int man, int nights, int tenths) {
        element(isMan(man));
        argument(isIn(nights, 1, 5) && isIn(tenths, 0, 10));
        return byMud(s.copy(), man, nights, tenths, 1, 0);
    }

    private int byMud(State t, int man, int nights, int tenths, int weight, int times) {
        if (nights == 0) {
            return weight * times;
        }
        int sum = 0;
        for (int mud = 0; mud <= 9; mud += 9) {
            int more = (int) namedAll(t, mud).stream().filter(m -> m == man).count();
            State u = t.copy();
            night(u, mud);
            sum += byMud(u, man, nights - 1, tenths, weight * (mud == 9 ? tenths : 10 - tenths), times + more);
        }
        return sum;
    }

    private int[] play(int man, int other, int a, int b) {
        State t = s.copy();
        if (a == 1) {
            t.loud.set(man, 9);
        }
        if (b == 1) {
            t.loud.set(other, 9);
        }
        int[] gain = {-a, -b};
        for (int i = 0; i < 6; i++) {
            List<Integer> all = namedAll(t, mudOf(t));
            gain[0] -= all.contains(other) ? 1 : 0;
            gain[1] -= all.contains(man) ? 1 : 0;
            night(t, mudOf(t));
        }
        gain[0] += t.honour.get(man) - s.honour.get(man);
        gain[1] += t.honour.get(other) - s.honour.get(other);
        return gain;
    }

    public int game(int man, int other, int what) {
        element(isMan(man) && isMan(other) && isIn(what, 0, 1));
        argument(man != other && rowOf(s, man) >= 0 && rowOf(s, other) >= 0);
        List<Integer> rests = new ArrayList<>();
        for (int a = 0; a < 2; a++) {
            for (int b = 0; b < 2; b++) {
                if (play(man, other, 1 - a, b)[0] <= play(man, other, a, b)[0]
                    && play(man, other, a, 1 - b)[1] <= play(man, other, a, b)[1]) {
                    rests.add(10 * a + b);
                }
            }
        }
        return what == 0 ? rests.size() : rests.isEmpty() ? -1 : rests.get(0);
    }

    private int seed;

    private int draw(int n) {
        seed = seed * 1103515245 + 12345;
        return (seed >>> 16) % 32768 % n;
    }

    public int reviews(int from, int n, int what) {
        element(isIn(what, 0, 2));
        argument(isIn(n, 0, 40));
        seed = from;
        State t = s.copy();
        int mistakes = 0;
        for (int i = 0; i < n; i++) {
            if (!t.tread.isEmpty()) {
                int man = draw(t.tread.size());
                int kind = draw(3);
                if (kind == 0) {
                    t.tread.set(man, t.tread.get(man) ^ 1 << draw(beats));
                } else if (kind == 1) {
                    t.loud.set(man, draw(9) + 1);
                }
            }
            int mud = draw(10);
            List<Integer> all = namedAll(t, mud);
            for (int r = 0; r < all.size(); r++) {
                mistakes += all.get(r) >= 0 && !t.rows.get(r).contains(all.get(r)) ? 1 : 0;
            }
            night(t, mud);
        }
        return what == 0 ? t.honour.stream().mapToInt(h -> h).sum() : what == 1 ? mistakes : mostOf(t);
    }

    // ---- the image

    public void image() {
        imageState = s.copy();
        imageActs = new ArrayList<>(acts);
        imageSeen = new ArrayList<>(seen);
    }

    public boolean restore() {
        if (imageState == null) {
            return false;
        }
        s = imageState.copy();
        acts = new ArrayList<>(imageActs);
        seen = new ArrayList<>(imageSeen);
        return true;
    }
}
