/** Promises 32 to 34, each sentence that names a boundary; what is refused stands in RefusedTest. */
public final class TwoLinesEdgesTest {
    public static void main(String[] args) {
        joinFromEachPeg();
        joinEmptyOnes();
        joinTheLeastOfSeveral();
        joinBehindTheOther();
        joinStockingsOverTheSeam();
        joinInThisWind();
        joinEachTwo();
        sameFromNoneToSeven();
        sameByKindAndSize();
        sameOfUnlikeLengths();
        bestOfEachLine();
        bestOfSeveralTheLeast();
        bestInOneWind();
        bestInNone();
        Due.end();
    }

    // ---- promise 32

    /** "0 to its end", "whether there is room or not": torn ones stay away, sheets come. */
    private static void joinFromEachPeg() {
        for (int n = 0; n <= 7; n++) {
            LinenSigns x = Due.hung(11, 11, 11, 11, 11, 11, 11);
            for (int peg = 0; peg < 7; peg++) {
                x.hang(1, peg < n ? 4 : 1, 1);
            }
            Due.is("join: torn ones " + n + ", behind a full line", x.join(1, 0), n);
            Due.is("join: torn ones " + n + ", behind an empty line", x.join(1, 2), n);
            Due.is("they hang still", x.count(0), 14);
        }
    }

    private static void joinEmptyOnes() {
        LinenSigns x = Due.hung(45);
        Due.is("join: an empty one behind another", x.join(1, 0), 0);
        Due.is("join: an empty one behind an empty one", x.join(1, 2), 0);
        Due.is("join: one behind an empty one, better not", x.join(0, 1), 1);
        x.turn(0, 0, 1);
        Due.is("join: one behind an empty one", x.join(0, 1), 0);
    }

    private static void joinTheLeastOfSeveral() {
        LinenSigns x = Due.hung(51, 51, 51, 51, 51, 51, 51);
        Due.is("join: all are as good", x.join(0, 1), 0);
        Due.hangAll(x, 1, 41, 51, 51, 11, 41, 52);
        // from 0 and from 4 on: -10; else 0
        Due.is("join: 1, 2, 3, 5 and 6 are as good", x.join(1, 2), 1);
    }

    /** "GARMENTS from there on come behind all of the other's". */
    private static void joinBehindTheOther() {
        LinenSigns x = Due.hung(31);
        Due.hangAll(x, 1, 45);
        Due.is("join: doubled below 0", x.join(0, 1), 1);
        x.turn(1, 0, 1);
        Due.is("join: doubled above 0", x.join(0, 1), 0);
        Due.is("join: nothing is doubled yet", x.join(1, 0), 0);
        x.turn(1, 0, 4);
        Due.is("join: torn behind a red one", x.join(1, 0), 1);
    }

    private static void joinStockingsOverTheSeam() {
        LinenSigns x = Due.hung(21, 21);
        Due.hangAll(x, 1, 2, 21, 21);
        // 0: 3 + 2 + 1 + 2; 1: 3 + 3 + 4; 2: 3 + 3
        Due.is("join: stockings go on", x.join(1, 0), 1);
        // 1: 3 + 3, for a third one is black and 3 is odd; then 6 + 4
        x.turn(1, 1, 5);
        Due.is("join: a black one goes on", x.join(1, 0), 1);
        x.off(0, 1);
        // 0: 1 + 2, odd: 1 more, 2 more; 1: 1, 2 more, 3 more; 2: 1, 2 more
        Due.is("join: 6 either way", x.join(1, 0), 0);
    }

    private static void joinInThisWind() {
        LinenSigns x = Due.hung(9);
        Due.hangAll(x, 1, 42, 9, 5);
        Due.is("join, calm", x.join(1, 0), 1);
        x.wind(4);
        Due.is("join: the torn one is seen in 4", x.join(1, 0), 1);
        x.wind(5);
        Due.is("join: it isn't in 5", x.join(1, 0), 0);
    }

    private static void joinEachTwo() {
        for (int line = 0; line < 4; line++) {
            for (int other = 0; other < 4; other++) {
                LinenSigns x = new LinenSigns();
                x.hang(line, 4, 1);
                Due.is("join " + line + ", " + other, x.join(line, other), line == other ? Due.BEYOND : 1);
            }
        }
    }

    // ---- promise 33

    private static void sameFromNoneToSeven() {
        for (int n = 0; n <= 7; n++) {
            LinenSigns x = Due.hung(1, 12, 23, 34, 45, 56, 7);
            x.like(3, 0);
            for (int peg = n; peg < 7; peg++) {
                x.set(3, peg, 1, 9);
            }
            Due.is("same: " + n, x.same(0, 3), n);
            Due.is("same the other way round: " + n, x.same(3, 0), n);
        }
        for (int line = 0; line < 4; line++) {
            LinenSigns x = new LinenSigns();
            Due.is("same: an empty one and itself", x.same(line, line), 0);
            Due.hangAll(x, line, 1, 1, 1, 1, 1, 1, 1);
            Due.is("same: a full one and itself", x.same(line, line), 7);
        }
    }

    /** "alike (KIND, SIZE)": WET doesn't matter, a KIND under it isn't the same. */
    private static void sameByKindAndSize() {
        LinenSigns x = Due.hung(15, 15, 15, 15);
        Due.hangAll(x, 1, 45, 14, 15, 5);
        Due.is("same", x.same(0, 1), 1);
        x.set(1, 2, 2, 9);
        Due.is("same: wet", x.same(0, 1), 1);
    }

    private static void sameOfUnlikeLengths() {
        LinenSigns x = Due.hung(1, 2, 3, 4, 5, 6, 7);
        x.like(1, 0);
        x.off(1, 0);
        Due.is("same: none on its peg", x.same(0, 1), 0);
        x.like(1, 0);
        for (int n = 6; n >= 0; n--) {
            x.off(1, n);
            Due.is("same: the first " + n, x.same(0, 1), n);
            Due.is("same: the first, the other way round", x.same(1, 0), n);
        }
    }

    // ---- promise 34

    private static void bestOfEachLine() {
        for (int line = 0; line < 4; line++) {
            LinenSigns x = new LinenSigns();
            for (int each = 0; each < 4; each++) {
                x.hang(each, 0, each == line ? 9 : 8);
            }
            Due.means(x, 0, 9);
            Due.is("best " + line, x.best(1), line);
            x.wind(20);
            Due.is("best " + line + " in any wind", x.best(1), line);
        }
    }

    private static void bestOfSeveralTheLeast() {
        LinenSigns x = new LinenSigns();
        Due.means(x, 0, 9);
        Due.is("best: nothing hangs", x.best(0), 0);
        for (int line = 3; line >= 0; line--) {
            x.hang(line, 0, 9);
            Due.is("best of several", x.best(1), line);
        }
        Due.is("best in winds 10 to 20", x.best(0), 0);
        x.set(0, 0, 2, 1);
        Due.is("best: 0 is seen longer", x.best(0), 1);
        Due.is("best: it is best then", x.best(1), 0);
    }

    /** WINDS 0 to 20: the first and the last one count. */
    private static void bestInOneWind() {
        LinenSigns x = new LinenSigns();
        x.hang(2, 2, 7);
        x.set(2, 0, 2, 9);
        for (int line : new int[] {0, 1, 3}) {
            x.hang(line, 2, 9);
            x.set(line, 0, 2, 9);
        }
        Due.means(x, 0, 1);
        // the stocking of 7 isn't seen in 20, the other ones always
        Due.is("best: in 20 alone", x.best(0), 2);
        Due.is("best: in all winds", x.best(1), 0);
        LinenSigns y = new LinenSigns();
        y.hang(3, 0, 9);
        y.hang(3, 0, 9);
        y.set(3, 0, 2, 9);
        y.set(3, 1, 2, 0);
        y.turn(3, 1, 4);
        // -81 to wind 18; nothing in 19 and 20
        Due.means(y, 0, -81);
        Due.is("best: below 0", y.best(1), 3);
        y.set(3, 0, 2, 0);
        y.set(3, 0, 1, 1);
        Due.means(y, 0, -90, -89);
        Due.is("best: in 0 and 1", y.best(2), 3);
    }

    /** "NONE: none is in any". */
    private static void bestInNone() {
        LinenSigns x = Due.hung(5);
        Due.means(x, 0, 9999);
        Due.is("best: in none", x.best(1), Due.NONE);
        Due.is("best: no number", x.best(2), Due.NONE);
        Due.is("best: in some", x.best(0), 0);
        x.means(2, 5);
        Due.is("best: the only one", x.best(2), 0);
        x.forget(2);
        Due.is("best: forgotten", x.best(2), Due.NONE);
        Due.is("NONE told", x.status(3), 3);
    }
}
