import java.util.Arrays;
import java.util.function.IntSupplier;
import java.util.function.IntUnaryOperator;

/** Compares answers with those that are due and counts the wrong ones. */
final class Due {
    static final int NO_SUCH = -1001;
    static final int ILLEGAL = -1002;

    private static int wrong = 0;
    private static int asked = 0;

    private Due() {
    }

    /** The answer, or the number of the exception that the document names. */
    static int answer(IntSupplier call) {
        try {
            return call.getAsInt();
        } catch (java.util.NoSuchElementException e) {
            return e.getClass() == java.util.NoSuchElementException.class ? NO_SUCH : -1003;
        } catch (IllegalArgumentException e) {
            return e.getClass() == IllegalArgumentException.class ? ILLEGAL : -1004;
        }
    }

    static void is(String label, int want, IntSupplier call) {
        same(label, want, answer(call));
    }

    static void isTrue(String label, boolean holds) {
        same(label, 1, holds ? 1 : 0);
    }

    static void same(String label, int want, int got) {
        asked++;
        if (got != want) {
            wrong++;
            System.out.println(label + " answered " + told(got) + ", due is " + told(want));
        }
    }

    /** Refused is what lies outside, near and far; what lies at both ends within is not. */
    static void within(String label, int least, int greatest, int refusal, IntUnaryOperator call) {
        for (int bad : new int[] {least - 1, greatest + 1, Integer.MIN_VALUE, Integer.MAX_VALUE}) {
            is(label + " " + bad, refusal, () -> call.applyAsInt(bad));
        }
        for (int good : new int[] {least, greatest}) {
            isTrue(label + " " + good + " is taken", answer(() -> call.applyAsInt(good)) != refusal);
        }
    }

    private static String told(int answer) {
        switch (answer) {
            case NO_SUCH: return "throws.NoSuchElementException";
            case ILLEGAL: return "throws.IllegalArgumentException";
            default: return Integer.toString(answer);
        }
    }

    /** Puts a text on the tape, with blanks behind it. */
    static void tape(NightMarch x, String text) {
        for (int i = 0; i < text.length(); i += 20) {
            int[] numbers = new int[5];
            for (int k = 0; k < 20; k++) {
                int sign = i + k < text.length() ? text.charAt(i + k) : ' ';
                numbers[k / 4] = numbers[k / 4] << 8 | sign;
            }
            x.feed(numbers[0], numbers[1], numbers[2], numbers[3], numbers[4]);
        }
    }

    static int army(NightMarch x, String text) {
        tape(x, text);
        return x.army(text.length());
    }

    /** A new object with an army that must be one. */
    static NightMarch of(String text) {
        NightMarch x = new NightMarch();
        same("army of " + text, 0, army(x, text));
        return x;
    }

    /** The FAULT of a text on a new object, and its place. */
    static void fault(int kind, int place, String text) {
        NightMarch x = new NightMarch();
        same("army of " + text, kind, army(x, text));
        same("fault of " + text, place, x.fault());
        same("status of " + text, kind == 0 ? 0 : 1, x.count(12));
    }

    static void good(String text) {
        fault(0, -1, text);
    }

    /** All that can be seen of an object but STATUS: numbers, MEN, ROWS, and what what is SEEN leads to. */
    static int[] whole(NightMarch x) {
        int[] all = new int[16 + 8 * 7];
        int size = 0;
        for (int what = 0; what < 12; what++) {
            all[size++] = x.count(what);
        }
        for (int what = 0; what < 3; what++) {
            all[size++] = x.limped(what);
        }
        all[size++] = x.fault();
        for (int man = 0; man < x.count(1); man++) {
            for (int what = 0; what < 4; what++) {
                all[size++] = x.man(man, what);
            }
        }
        for (int row = 0; row < x.count(2); row++) {
            for (int what = 0; what < 3; what++) {
                all[size++] = x.row(row, what);
            }
        }
        return all;
    }

    /** Nothing but STATUS is otherwise than it was. */
    static void stays(String label, int[] was, NightMarch x) {
        isTrue(label + ": nothing changes", Arrays.equals(was, whole(x)));
    }

    static int wrong() {
        return wrong;
    }

    static void end() {
        System.out.println(asked + " answers asked, " + wrong + " wrong");
        if (wrong != 0) {
            System.exit(1);
        }
    }
}
