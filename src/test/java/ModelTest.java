import java.lang.reflect.InvocationTargetException;
import java.lang.reflect.Method;
import java.util.Arrays;
import java.util.Random;

/** Random runs of calls, by fixed seeds, on the class and on the plain model: every answer must be the same. */
public final class ModelTest {
    // A call and its arguments: m a MAN, r a ROW, R a ROW or NONE, b a BEAT, B bits, z a seed, ? true or false,
    // and a letter of LEAST for a number from there to the digits behind it.
    private static final String[] CALLS = {
        "fault", "count w14", "man m w3", "row r w2", "nights n20", "put m R", "put m R", "heel m b", "loud m n9",
        "change r r", "undo", "then r w40 w1", "honour m w40", "first m", "mistaken n40", "unsung n40", "far m m",
        "nearest", "apart n12", "tread w1", "passes m m", "hidden m", "toSock m", "review R", "see r n12 b ?",
        "see r n12 b ?", "forget", "limped w2", "next w1", "byMud m n5 w10", "game m m w1", "reviews z w40 w2",
        "nextTo B", "alike B", "lost m", "mates m", "step", "chain m m n12", "most n40", "often n40 w1", "spoilt m",
        "reform m w1", "swap", "loudest", "run m", "rarest", "image", "restore",
    };
    // So many ACTS that not all are kept, and images among them.
    private static final String[] ACTS = {
        "nights n20", "put m R", "put m R", "heel m b", "loud m n9", "change r r", "nights n3", "heel m b", "loud m n9",
        "change r r", "nights n20", "put m R", "put m R", "heel m b", "loud m n9", "change r r", "undo", "undo", "undo",
        "image", "restore", "count w14", "man m w3", "row r w2", "man m w3", "row r w2", "honour m w40", "see r n12 b ?",
    };
    private static final int[] ODD = {-1, -2, -3, 0, 8, 12, 13, 41, 99, 4096, Integer.MIN_VALUE, Integer.MAX_VALUE, 1 << 31 | 1};

    private static Random random;
    private static NightMarch real;
    private static PlainModel model;
    private static int beats;
    private static int men;
    private static int rows;

    public static void main(String[] args) throws Exception {
        for (int seed = 1; seed <= 700; seed++) {
            random = new Random(seed);
            run("seed " + seed, CALLS, 60 + random.nextInt(120));
        }
        for (int seed = 1001; seed <= 1100; seed++) {
            random = new Random(seed);
            run("acts " + seed, ACTS, 400);
        }
        for (int seed = 1; seed <= 30000; seed++) {
            random = new Random(-seed);
            real = new NightMarch();
            model = new PlainModel();
            army("text " + seed, 3);
        }
        Due.end();
    }

    private static void run(String label, String[] some, int calls) throws Exception {
        real = new NightMarch();
        model = new PlainModel();
        StringBuilder told = new StringBuilder(label);
        learn();
        if (random.nextInt(10) > 0) {
            told.append(' ').append(army(label, random.nextInt(12) / 11));
        }
        for (int i = 0; i < calls; i++) {
            if (random.nextInt(some == ACTS ? 600 : 80) == 0) {
                told.append(' ').append(army(label, random.nextInt(2)));
            }
            String[] words = some[random.nextInt(some.length)].split(" ");
            Object[] given = new Object[words.length - 1];
            for (int k = 0; k < given.length; k++) {
                given[k] = argument(words[k + 1]);
            }
            String call = words[0] + Arrays.toString(given);
            told.append(' ').append(call);
            compare(told.toString(), words[0], given);
        }
    }

    private static Object argument(String kind) {
        if (kind.equals("?")) {
            return random.nextBoolean();
        }
        if (kind.equals("z")) {
            return random.nextInt();
        }
        if (random.nextInt(25) == 0) {
            return ODD[random.nextInt(ODD.length)];
        }
        switch (kind.charAt(0)) {
            case 'm': return random.nextInt(men + 1) % Math.max(men, 1);
            case 'r': return random.nextInt(rows + 1) % Math.max(rows, 1);
            case 'R': return random.nextInt(rows + 1) - 1;
            case 'b': return random.nextInt(beats);
            case 'B': return random.nextInt(1 << beats);
            case 'n': return 1 + random.nextInt(Integer.parseInt(kind.substring(1)));
            default: return random.nextInt(Integer.parseInt(kind.substring(1)) + 1);
        }
    }

    private static void compare(String label, String name, Object... given) throws Exception {
        int want = answer(model, name, given);
        int got = answer(real, name, given);
        if (want != got) {
            Due.same(label, want, got);
        } else {
            Due.same(name, want, got);
        }
    }

    private static int answer(Object on, String name, Object... given) throws Exception {
        for (Method method : on.getClass().getMethods()) {
            if (method.getName().equals(name) && method.getParameterCount() == given.length) {
                Object[] result = new Object[1];
                try {
                    result[0] = method.invoke(on, given);
                } catch (InvocationTargetException e) {
                    return thrown(e.getCause());
                }
                return result[0] == null ? 0 : result[0] instanceof Boolean ? (Boolean) result[0] ? 1 : 0 : (Integer) result[0];
            }
        }
        throw new IllegalStateException("no call " + name);
    }

    private static int thrown(Throwable cause) {
        if (cause.getClass() == java.util.NoSuchElementException.class) {
            return Due.NO_SUCH;
        }
        if (cause.getClass() == IllegalArgumentException.class) {
            return Due.ILLEGAL;
        }
        throw new IllegalStateException(cause);
    }

    private static void learn() {
        beats = real.count(0);
        men = real.count(1);
        rows = real.count(2);
    }

    /** A text with so many changes, which may make it faulty, is read by both. */
    private static String army(String label, int changes) throws Exception {
        String text = text();
        for (int i = 0; i < changes; i++) {
            text = changed(text);
        }
        if (text.length() > 700) {
            text = text.substring(0, 700);
        }
        for (int i = 0; i < text.length(); i += 20) {
            Object[] numbers = new Object[5];
            for (int k = 0; k < 5; k++) {
                int number = 0;
                for (int j = 0; j < 4; j++) {
                    int at = i + 4 * k + j;
                    number = number << 8 | (at < text.length() ? text.charAt(at) : ' ');
                }
                numbers[k] = number;
            }
            compare(label, "feed", numbers);
        }
        String told = label + " " + text;
        compare(told, "army", text.length() + (random.nextInt(40) == 0 ? 20 : 0));
        compare(told, "fault");
        for (int what = 0; what < 15; what++) {
            compare(told, "count", what);
        }
        learn();
        for (int row = 0; row < rows; row++) {
            compare(told, "row", row, 0);
            compare(told, "row", row, 1);
        }
        for (int man = 0; man < men; man++) {
            compare(told, "man", man, 0);
            compare(told, "man", man, 1);
        }
        return text;
    }

    private static final String[] WORDS = {
        "beats", "man", "row", "mud", "slack", "hears", "or", "and", "not", "sum", "others", "beat", "many", "last",
        "boot", "0", "1", "2", "7", "9", "12", "13", "4095", "4096", "9999", "12345", "00001", "(", ")", "+", "-", "*",
        "/", "<", "=", ";", "#", "A", "\n", "\t", "\u00e9", "not not not not not not ", "((((((", "))))))",
    };

    private static String changed(String text) {
        int at = random.nextInt(text.length() + 1);
        int end = Math.min(text.length(), at + random.nextInt(4));
        switch (random.nextInt(4)) {
            case 0: return text.substring(0, at) + " " + WORDS[random.nextInt(WORDS.length)] + " " + text.substring(at);
            case 1: return text.substring(0, at) + WORDS[random.nextInt(WORDS.length)] + text.substring(end);
            case 2: return text.substring(0, at) + text.substring(end);
            default: return random.nextInt(3) == 0 ? text.substring(0, at) : text;
        }
    }

    private static String text() {
        StringBuilder text = new StringBuilder();
        int many = random.nextInt(20) == 0 ? random.nextInt(2) : 2 + random.nextInt(7);
        int told = 4 + (random.nextInt(5) == 0 ? random.nextInt(9) : random.nextInt(3));
        boolean late = random.nextBoolean();
        String head = random.nextInt(6) == 0 ? "" : "beats " + told + ";";
        if (!late) {
            text.append(head);
        }
        for (int i = 0; i < many; i++) {
            text.append("man ").append(random.nextInt(random.nextInt(9) == 0 ? 4096 : 1 << told)).append(gap());
            text.append(1 + random.nextInt(9)).append(';');
        }
        appendRows(text, many);
        if (random.nextInt(4) > 0) {
            text.append("mud");
            for (int i = random.nextInt(random.nextInt(5) == 0 ? 8 : 3); i >= 0; i--) {
                text.append(gap()).append(random.nextInt(random.nextInt(3) == 0 ? 10 : 6));
            }
            text.append(gap().trim()).append(';');
        }
        if (random.nextInt(4) > 0) {
            text.append("slack ").append(random.nextInt(random.nextInt(4) == 0 ? 13 : 3)).append(';');
        }
        if (late) {
            text.append(head);
        }
        if (random.nextInt(3) > 0) {
            String free = expr(random.nextInt(5));
            String rule = "hears " + (random.nextBoolean() ? free : RULES[random.nextInt(RULES.length)]) + ";";
            if (text.length() + rule.length() <= 700) {
                text.append(rule);
            }
        }
        return text.toString();
    }

    private static void appendRows(StringBuilder text, int many) {
        int[] order = new int[many];
        for (int i = 0; i < many; i++) {
            int other = random.nextInt(i + 1);
            order[i] = order[other];
            order[other] = i;
        }
        int alone = 1 + random.nextInt(4);
        for (int i = 0; i < many; ) {
            int abreast = Math.min(1 + random.nextInt(alone), many - i);
            if (random.nextInt(8) > 0) {
                text.append("row");
                for (int k = 0; k < abreast; k++) {
                    text.append(gap()).append(order[i + k]);
                }
                text.append(';');
            }
            i += abreast;
        }
    }

    private static String gap() {
        return random.nextInt(6) == 0 ? " \n " : " ";
    }

    private static final String[] VALUES = {"sum", "sum", "sum", "others", "mud", "mud", "beat", "many", "last"};
    private static final String[] SIGNS = {"+", "-", "*", "/"};
    // Rules by which men are often heard as they tread, but not by each order of rows.
    private static final String[] RULES = {
        "mud<sum", "others<sum", "mud<sum-others/2", "mud<sum+others/3", "sum and not last", "mud<sum*2/many",
        "sum-others and mud<sum", "not others and sum or last and mud<others",
    };

    private static String expr(int depth) {
        if (depth == 0) {
            return random.nextInt(4) == 0 ? Integer.toString(random.nextInt(random.nextInt(4) == 0 ? 10000 : 10))
                : VALUES[random.nextInt(VALUES.length)];
        }
        String left = expr(depth - 1);
        String right = expr(random.nextInt(depth));
        switch (random.nextInt(8)) {
            case 0: return "(" + left + ")";
            case 1: return "(not " + left + ")";
            case 2: return left + " and " + right;
            case 3: return "(" + left + " or " + right + ")";
            case 4: return "(" + left + "<" + right + ")";
            case 5: return "(" + left + "=" + right + ")";
            default: return left + SIGNS[random.nextInt(SIGNS.length)] + right;
        }
    }
}
