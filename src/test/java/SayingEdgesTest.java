/** Promises 18 to 25, each sentence that names a boundary; what is refused stands in RefusedTest. */
public final class SayingEdgesTest {
    public static void main(String[] args) {
        worthOfNoneOneAndSeven();
        worthOfEachKindAndSize();
        blackByOddAndEven();
        stockingsByNumber();
        stockingsPartedByWhatIsSeen();
        stockingsBehindOneThatIsNotSeen();
        heldTo9999();
        heldEachTime();
        worthInEachWind();
        saysTheNearest();
        windsAllOrOne();
        windsEndAt20();
        lostEachPegAlone();
        lostAllOrNone();
        fewestFromNoneToAll();
        whichIsTheLeastNumber();
        fewestOfAnEmptyLine();
        fewestNeedsToBeReadSo();
        moreLeastAndGreatest();
        moreWithoutRoom();
        moreThatIsNotSeen();
        moreOfAnEmptyLine();
        Due.end();
    }

    private static void worth(int want, int... codes) {
        Due.is("worth of " + java.util.Arrays.toString(codes), Due.hung(codes).worth(0), want);
    }

    // ---- promise 18

    private static void worthOfNoneOneAndSeven() {
        worth(0);
        worth(9, 9);
        worth(63, 9, 9, 9, 9, 9, 9, 9);
        worth(630, 19, 19, 19, 19, 19, 19, 19);
        worth(-630, 49, 49, 49, 49, 49, 49, 49);
        worth(0, 39, 39, 39, 39, 39, 39, 39);
        worth(0, 59, 59, 59, 59, 59, 59, 59);
        worth(5760, 19, 39, 39, 39, 39, 39, 39);
        worth(-5760, 49, 39, 39, 39, 39, 39, 39);
        for (int line = 0; line < 4; line++) {
            LinenSigns x = new LinenSigns();
            x.hang(line, 0, 5);
            for (int each = 0; each < 4; each++) {
                Due.is("worth of line " + each, x.worth(each), each == line ? 5 : 0);
            }
        }
    }

    /** What each says to a worth above 0, to one below 0, and to 0. */
    private static void worthOfEachKindAndSize() {
        for (int size = 1; size <= 9; size++) {
            int[] said = {size, 10 * size, 1, 0, -10 * size, 0};
            for (int kind = 0; kind < 6; kind++) {
                int code = 10 * kind + size;
                boolean isRed = kind == 3;
                worth(said[kind], code);
                worth(isRed ? 16 : 8 + said[kind], 8, code);
                worth(isRed ? -40 : -20 + said[kind], 42, code);
            }
        }
    }

    /** "BLACK: as STOCKING, if v is odd; else v": 0 is even, and below 0 there are odd ones, too. */
    private static void blackByOddAndEven() {
        worth(0, 51);
        worth(2, 1, 51);
        worth(2, 2, 51);
        worth(-8, 41, 1, 51);
        worth(-8, 41, 2, 51);
        worth(0, 41, 9, 51);
        // 1, and 2 with 1 ahead of it; then it is even
        worth(4, 1, 52, 52, 1, 52);
        worth(1 + 2, 21, 51);
        worth(3 + 3, 21, 21, 51);
        worth(6, 21, 21, 51, 51);
        worth(2, 1, 51, 51);
    }

    /** "v and 1, and as much as there are STOCKINGS one behind the other just ahead of it". */
    private static void stockingsByNumber() {
        int[] due = {0, 1, 3, 6, 10, 15, 21, 28};
        for (int n = 0; n <= 7; n++) {
            int[] codes = new int[n];
            java.util.Arrays.fill(codes, 25);
            worth(due[n], codes);
        }
        // black ones are of a kind under it: they count, though they say nothing
        worth(7, 51, 51, 51, 51, 51, 51, 21);
    }

    private static void stockingsPartedByWhatIsSeen() {
        worth(1 + 2 + 5 + 1 + 2, 21, 21, 5, 21, 21);
        worth(1 + 2 + 50 + 1 + 2, 21, 21, 15, 21, 21);
        worth((1 + 2) * 2 + 1 + 2, 21, 21, 35, 21, 21);
        worth(1 + 2 - 50 + 1 + 2, 21, 21, 45, 21, 21);
        worth(1 + 2 + 3 + 4 + 5, 21, 21, 55, 21, 21);
    }

    /** "of the GARMENTS that are SEEN". */
    private static void stockingsBehindOneThatIsNotSeen() {
        for (int between : new int[] {1, 11, 21, 31, 41}) {
            LinenSigns x = Due.hung(29, 28, between, 27);
            x.wind(10);
            Due.is("stockings: " + between + " between isn't seen", x.worth(0), 1 + 2 + 3);
            x.set(0, 2, 2, 9);
            boolean isStocking = between == 21;
            int seen = new int[] {1, 10, 3, 3, -10}[between / 10];
            int due = 1 + 2 + seen + (isStocking ? 4 : 1);
            Due.is("stockings: " + between + " between is seen, as it is wet", x.worth(0), due);
        }
    }

    /** "Held to -9999 to 9999": 9998 is less than what is held, 9999 is as much. Only two lines come so far. */
    private static void heldTo9999() {
        LinenSigns x = Due.hung(18, 31, 31, 31, 31, 31, 47);
        Due.is("worth ahead", x.worth(0), 2490);
        Due.hangAll(x, 1, 41, 31, 31, 17, 8);
        Due.is("9998 from the first, 10038 from the second on", x.join(1, 0), 1);
        x.set(1, 4, 1, 9);
        Due.is("9999 from the first, 10039 from the second on", x.join(1, 0), 0);
    }

    /** "each time": what is held goes on from there. */
    private static void heldEachTime() {
        LinenSigns x = Due.hung(18, 31, 31, 31, 31, 31, 31);
        Due.hangAll(x, 1, 41, 31, 49, 49, 49, 49, 49);
        Due.is("10220 or 10240, then 450 less", x.join(1, 0), 0);
    }

    // ---- promise 19

    /** A WIND (0 to 20): each kind of size 9, to the last wind in which it is seen, behind a 3 or a 0. */
    private static void worthInEachWind() {
        int[] strongest = {9, 18, 12, 9, 18, 20};
        int[] due = {3 + 9, 3 + 90, 3 + 1, 3 * 2, 3 - 90, 3 + 1};
        for (int kind = 0; kind < 6; kind++) {
            // linen of 3 that is as wet as can be is seen to wind 12
            LinenSigns x = Due.hung(3);
            x.set(0, 0, 2, 9);
            x.hang(0, kind, 9);
            x.wind(17);
            for (int wind = 0; wind <= 20; wind++) {
                int ahead = wind <= 12 ? 3 : 0;
                boolean isSeen = wind <= strongest[kind];
                int want = !isSeen ? ahead : ahead == 3 ? due[kind] : new int[] {9, 90, 1, 0, -90, 0}[kind];
                Due.is("worthIn: kind " + kind + " in " + wind, x.worthIn(0, wind), want);
                x.wind(wind);
                Due.is("worth: kind " + kind + " in " + wind, x.worth(0), want);
                x.wind(17);
            }
            Due.is("wind stays", x.count(3), 17);
            Due.is("an empty line in wind 20", x.worthIn(1, 20), 0);
        }
    }

    // ---- promises 20 and 21

    private static void saysTheNearest() {
        LinenSigns x = Due.hung(5);
        x.means(9, 9999);
        Due.is("one meaning, far", x.says(0), 9);
        Due.is("an empty line", x.says(3), 9);
        x.means(8, 6);
        x.means(7, 4);
        Due.is("as near to both", x.says(0), 7);
        x.wind(6);
        Due.is("it isn't seen", x.says(0), 7);
        x.means(0, 0);
        Due.is("it isn't seen, and 0 has a meaning", x.says(0), 0);
        x.forget(0);
        x.forget(7);
        x.forget(8);
        x.forget(9);
        Due.is("none left", x.says(0), Due.NONE);
    }

    private static void windsAllOrOne() {
        LinenSigns x = Due.hung(5, 6);
        Due.means(x, 11, 6, 0);
        int[] due = {(1 << 6) - 1, 1 << 6, (1 << 21) - (1 << 7)};
        for (int wind = 0; wind <= 20; wind++) {
            x.wind(wind);
            Due.is("winds as in " + wind, x.winds(0), due[wind <= 5 ? 0 : wind == 6 ? 1 : 2]);
        }
        Due.is("an empty line: all", x.winds(1), 2097151);
        x.forget(0);
        x.forget(1);
        Due.is("one meaning: all", x.winds(0), 2097151);
        Due.is("wind stays", x.count(3), 20);
    }

    private static void windsEndAt20() {
        LinenSigns x = Due.hung(27);
        x.set(0, 0, 2, 9);
        Due.means(x, 0, 1);
        // 7, 9 and 3: seen to 19
        Due.is("all but 20", x.winds(0), (1 << 20) - 1);
        x.wind(19);
        Due.is("all but 20, in 19", x.winds(0), (1 << 20) - 1);
        x.wind(20);
        Due.is("20 alone", x.winds(0), 1 << 20);
        x.set(0, 0, 1, 8);
        Due.is("20, too", x.winds(0), (1 << 21) - 1);
    }

    // ---- promise 22

    private static void lostEachPegAlone() {
        for (int peg = 0; peg < 7; peg++) {
            LinenSigns x = Due.hung(51, 51, 51, 51, 51, 51, 51);
            x.turn(0, peg, 1);
            Due.means(x, 0, 10);
            Due.is("lost: peg " + peg + " alone", x.lost(0), 1 << peg);
            Due.is("it hangs still", x.worth(0), 10);
        }
    }

    private static void lostAllOrNone() {
        LinenSigns x = Due.hung(1, 1, 1, 1, 1, 1, 1);
        Due.means(x, 7, 6);
        Due.is("lost: each of seven", x.lost(0), 127);
        x.means(1, 5);
        // 6 is as near to both: the least meaning
        Due.is("lost: none of seven", x.lost(0), 0);
        x.means(1, 6);
        x.wind(2);
        Due.is("lost: none is seen", x.lost(0), 0);
        Due.is("lost: an empty line", x.lost(1), 0);
        LinenSigns one = Due.hung(9);
        Due.means(one, 9, 0);
        Due.is("lost: the only one", one.lost(0), 1);
        // those behind close up: the two stockings come together
        LinenSigns y = Due.hung(21, 5, 21);
        Due.means(y, 7, 3, 6);
        Due.is("lost: stockings close up", y.lost(0), 0b111);
        y.means(1, 9);
        y.means(2, -9);
        Due.is("lost: then none", y.lost(0), 0);
    }

    // ---- promises 23 and 24

    /** "(0: it is)", and one to seven of seven; "of several the least". */
    private static void fewestFromNoneToAll() {
        LinenSigns x = Due.hung(19, 19, 19, 19, 19, 19, 19);
        Due.means(x, 630, 540, 450, 360, 270, 180, 90, 0);
        for (int n = 0; n <= 7; n++) {
            Due.is("fewest: " + n, x.fewest(0, n), n);
            Due.is("which: " + n, x.which(0, n), (1 << n) - 1);
        }
        Due.is("they hang still", x.count(0), 7);
        x.wind(19);
        for (int n = 0; n <= 7; n++) {
            Due.is("fewest: " + n + ", none is seen", x.fewest(0, n), n == 7 ? 0 : Due.NONE);
            Due.is("which: " + n + ", none is seen", x.which(0, n), n == 7 ? 0 : Due.NONE);
        }
        for (int peg = 0; peg < 7; peg++) {
            LinenSigns y = Due.hung(19, 19, 19, 19, 19, 19, 19);
            y.turn(0, peg, 0);
            // 549 with linen, 540 without it, 459 without a sheet
            Due.means(y, 549, 540, 459);
            Due.is("fewest: peg " + peg + " alone", y.fewest(0, 1), 1);
            Due.is("which: peg " + peg + " alone", y.which(0, 1), 1 << peg);
        }
    }

    /** Sets are told by bits: pegs 1 and 2 (6) are less than pegs 0 and 3 (9). */
    private static void whichIsTheLeastNumber() {
        LinenSigns x = Due.hung(1, 2, 3, 4);
        Due.means(x, 5, 4, 6);
        Due.is("fewest: two", x.fewest(0, 0), 2);
        Due.is("which: pegs 1 and 2", x.which(0, 0), 6);
        x.swap(0, 0, 1);
        // 2 1 3 4: pegs 0 and 2, or 1 and 3
        Due.is("which: pegs 0 and 2", x.which(0, 0), 5);
        // the fewest count ahead of the least: peg 3 (8) is more than pegs 0 and 1 (3)
        LinenSigns y = Due.hung(1, 2, 9, 3);
        Due.means(y, 12, 15, 13, 11, 6);
        Due.is("fewest: one", y.fewest(0, 0), 1);
        Due.is("which: peg 3", y.which(0, 0), 8);
    }

    private static void fewestOfAnEmptyLine() {
        LinenSigns x = new LinenSigns();
        Due.means(x, 0, 1);
        Due.is("fewest: it is", x.fewest(0, 0), 0);
        Due.is("which: it is", x.which(0, 0), 0);
        Due.is("fewest: by none", x.fewest(0, 1), Due.NONE);
        Due.is("which: by none", x.which(0, 1), Due.NONE);
        x.hang(0, 0, 1);
        Due.is("fewest: the only one stays", x.fewest(0, 1), 0);
        Due.is("fewest: the only one is off", x.fewest(0, 0), 1);
        Due.is("which: the only one is off", x.which(0, 0), 1);
    }

    /** A meaning with the same number as a less one is never read. */
    private static void fewestNeedsToBeReadSo() {
        LinenSigns x = Due.hung(5);
        x.means(3, 5);
        x.means(4, 5);
        Due.is("fewest: the less one", x.fewest(0, 3), 0);
        Due.is("fewest: the other one", x.fewest(0, 4), Due.NONE);
        Due.is("which: the other one", x.which(0, 4), Due.NONE);
        Due.is("more: the other one", x.more(0, 4), Due.NONE);
        Due.is("orders: the other one", x.orders(0, 4), 0);
        Due.is("best: the other one", x.best(4), Due.NONE);
    }

    // ---- promise 25

    private static void more(int want, LinenSigns x, int... numbers) {
        Due.means(x, numbers);
        Due.is("more: " + want, x.more(0, 0), want);
    }

    /** "10 times KIND, and SIZE": the least and the greatest of each kind that can be the least answer. */
    private static void moreLeastAndGreatest() {
        more(1, Due.hung(19), 91, 90, 92);
        more(9, Due.hung(19), 99, 98, 100);
        more(11, Due.hung(19), 100, 99, 101);
        more(19, Due.hung(19), 180, 179, 181);
        more(31, Due.hung(19, 19), 360, 300, 400);
        more(41, Due.hung(19), 80, 79, 81);
        more(49, Due.hung(19, 9), 9, 8, 10);
        // an even worth that stays: linen and stockings say something, a black one doesn't
        more(51, Due.hung(19), 90, 89, 91);
        LinenSigns x = Due.hung(19, 19);
        x.set(0, 0, 2, 9);
        x.set(0, 1, 2, 9);
        // no linen is seen in wind 10, sheets from 5 on, stockings from 7 on; in 12 stockings of 9 alone
        x.wind(10);
        more(27, x, 181, 180, 230);
        x.wind(12);
        more(29, x, 181, 180, 230);
        more(Due.NONE, Due.hung(19), 9999, 180);
    }

    /** "hung at the end (whether there is room or not)". */
    private static void moreWithoutRoom() {
        LinenSigns x = Due.hung(21, 21, 21, 21, 21, 21, 21);
        Due.means(x, 35, 36, 37);
        Due.is("more: an eighth", x.more(0, 0), 1);
        Due.is("more: an eighth of 8", x.more(0, 1), 8);
        Due.is("more: an eighth of 9", x.more(0, 2), 9);
        x.wind(4);
        x.means(0, 28);
        // linen of 8 and a stocking say 8, but linen comes first
        Due.is("more: an eighth in wind 4", x.more(0, 1), 5);
        Due.is("more: none is hung", x.count(0), 7);
    }

    /** It is hung dry: what isn't seen then leaves the line as it is. */
    private static void moreThatIsNotSeen() {
        LinenSigns x = Due.hung(19);
        Due.means(x, 90, 91, 89);
        x.wind(1);
        Due.is("more: linen of 1 is seen in 1", x.more(0, 0), 51);
        x.wind(2);
        Due.is("more: linen of 1 isn't in 2", x.more(0, 0), 1);
        x.wind(9);
        Due.is("more: linen of 9 is seen in 9", x.more(0, 1), 9);
        x.wind(10);
        Due.is("more: no linen is in 10", x.more(0, 1), 15);
    }

    private static void moreOfAnEmptyLine() {
        LinenSigns x = new LinenSigns();
        Due.means(x, 0, 1, 9, 10, 90, -10, -90);
        int[] due = {31, 1, 6, 11, 16, 41, 46};
        for (int meaning = 0; meaning < due.length; meaning++) {
            Due.is("more: an empty line, " + meaning, x.more(3, meaning), due[meaning]);
        }
    }
}
