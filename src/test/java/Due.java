/** Counts answers that are not as due, and ends a test by them. */
final class Due {
    private static int asked = 0;
    private static int wrong = 0;

    static final int BEYOND = -1000000001;
    static final int FULL = -1000000002;
    static final int KIND = -1000000003;
    static final int NONE = -1000000004;
    static final int STATE = -1000000005;
    static final int MISSING = -1000000006;
    static final int SIZE = -1000000007;

    private Due() {
    }

    static void is(String call, long got, long want) {
        asked++;
        if (got != want) {
            wrong++;
            System.out.println(call + " answered " + got + ", due is " + want);
        }
    }

    static void holds(String what, boolean isSo) {
        is(what, isSo ? 1 : 0, 1);
    }

    static void end() {
        System.out.println(asked + " answers asked for, " + wrong + " wrong");
        if (wrong != 0 || asked == 0) {
            System.exit(1);
        }
    }

    /** A town with a line that hangs as codes tell: 10 times kind, and size. */
    static LinenSigns hung(int... codes) {
        LinenSigns x = new LinenSigns();
        hangAll(x, 0, codes);
        return x;
    }

    static void hangAll(LinenSigns x, int line, int... codes) {
        for (int code : codes) {
            x.hang(line, code / 10, code % 10);
        }
    }

    static void means(LinenSigns x, int... numbers) {
        for (int i = 0; i < numbers.length; i++) {
            x.means(i, numbers[i]);
        }
    }

    static void feedText(LinenSigns x, String text) {
        for (int i = 0; i < text.length(); i++) {
            x.feed(text.charAt(i), 1);
        }
    }

    static int town(LinenSigns x, String text) {
        feedText(x, text);
        return x.town();
    }

    /** The codes of a line's garments in a row, joined by a blank. */
    static String row(LinenSigns x, int line) {
        StringBuilder told = new StringBuilder();
        for (int peg = 0; peg < 7; peg++) {
            int kind = x.of(line, peg, 0);
            if (kind < 0) {
                break;
            }
            told.append(peg == 0 ? "" : " ").append(10 * kind + x.of(line, peg, 1));
        }
        return told.toString();
    }

    static void row(LinenSigns x, int line, String want) {
        String got = row(x, line);
        asked++;
        if (!got.equals(want)) {
            wrong++;
            System.out.println("line " + line + " hangs as " + got + ", due is " + want);
        }
    }
}
