import java.util.function.IntSupplier;

/** Compares answers with those that are due and counts the wrong ones. */
final class Due {
    static final int NO_SUCH = -1001;
    static final int ILLEGAL = -1002;

    private static int wrong = 0;
    private static int asked = 0;

    private Due() {
    }

    /** The answer, or the number of the exception that the document names. */
    static int answer(IntSupplier call) {
        try {
            return call.getAsInt();
        } catch (java.util.NoSuchElementException e) {
            return e.getClass() == java.util.NoSuchElementException.class ? NO_SUCH : -1003;
        } catch (IllegalArgumentException e) {
            return e.getClass() == IllegalArgumentException.class ? ILLEGAL : -1004;
        }
    }

    static void is(String label, int want, IntSupplier call) {
        same(label, want, answer(call));
    }

    static void isTrue(String label, boolean holds) {
        same(label, 1, holds ? 1 : 0);
    }

    static void same(String label, int want, int got) {
        asked++;
        if (got != want) {
            wrong++;
            System.out.println(label + " answered " + told(got) + ", due is " + told(want));
        }
    }

    private static String told(int answer) {
        switch (answer) {
            case NO_SUCH: return "throws.NoSuchElementException";
            case ILLEGAL: return "throws.IllegalArgumentException";
            default: return Integer.toString(answer);
        }
    }

    /** Puts a text on the tape, with blanks behind it. */
    static void tape(NightMarch x, String text) {
        for (int i = 0; i < text.length(); i += 20) {
            int[] numbers = new int[5];
            for (int k = 0; k < 20; k++) {
                int sign = i + k < text.length() ? text.charAt(i + k) : ' ';
                numbers[k / 4] = numbers[k / 4] << 8 | sign;
            }
            x.feed(numbers[0], numbers[1], numbers[2], numbers[3], numbers[4]);
        }
    }

    static int army(NightMarch x, String text) {
        tape(x, text);
        return x.army(text.length());
    }

    /** A new object with an army that must be one. */
    static NightMarch of(String text) {
        NightMarch x = new NightMarch();
        same("army of " + text, 0, army(x, text));
        return x;
    }

    static void end() {
        System.out.println(asked + " answers asked, " + wrong + " wrong");
        if (wrong != 0) {
            System.exit(1);
        }
    }
}
