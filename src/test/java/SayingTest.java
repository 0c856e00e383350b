/** Promises 18 to 25: what a line says. */
public final class SayingTest {
    public static void main(String[] args) {
        worthOfKinds();
        stockings();
        held();
        worthIn();
        saysAndWinds();
        lost();
        fewestAndWhich();
        more();
        Due.end();
    }

    private static void worth(int want, int... codes) {
        Due.is("worth of " + java.util.Arrays.toString(codes), Due.hung(codes).worth(0), want);
    }

    private static void worthOfKinds() {
        worth(0);
        worth(7, 7);
        worth(70, 17);
        worth(1, 27);
        worth(0, 37);
        worth(-70, 47);
        worth(0, 57);
        worth(14, 7, 39);
        worth(-140, 47, 31);
        worth(4, 3, 52);
        worth(4, 4, 52);
        // -10 -7 -14 -8 -8 1 2
        worth(2, 41, 3, 39, 6, 52, 9, 52);
        LinenSigns x = new LinenSigns();
        Due.is("worth: line 4", x.worth(4), Due.BEYOND);
        Due.is("worth: line -1", x.worth(-1), Due.BEYOND);
    }

    private static void stockings() {
        worth(1 + 2 + 3, 21, 29, 25);
        worth(1 + 2 + 5 + 1, 21, 29, 5, 25);
        worth(2 * (1 + 2) + 1, 21, 29, 31, 25);
        // black ones are stockings, whether they say something or not
        worth(0 + 2 + 3, 51, 21, 21);
        worth(1 + 2 + 3 + 4, 21, 21, 51, 21);
        worth(1 + 1 + 1 + 4, 1, 51, 1, 4);
        // an odd worth below 0
        worth(-10 + 3 + 1, 41, 3, 51);
        worth(-10 + 3 + 1 + 2, 41, 3, 21 + 30, 21);
        // one that isn't seen doesn't part them
        LinenSigns x = Due.hung(29, 1, 29);
        x.wind(5);
        Due.is("stockings: linen between them isn't seen", x.worth(0), 3);
        // one that isn't seen isn't ahead
        x = Due.hung(29, 21, 29);
        x.wind(5);
        Due.is("stockings: one between isn't seen", x.worth(0), 3);
        // a black one is seen always
        x = Due.hung(29, 51, 29);
        x.wind(12);
        Due.is("stockings: a black one between", x.worth(0), 1 + 2 + 3);
    }

    /** No seven garments pass 9999, but those of two lines one behind the other do. */
    private static void held() {
        worth(5760, 19, 31, 31, 31, 31, 31, 31);
        worth(-5760, 49, 31, 31, 31, 31, 31, 31);
        LinenSigns x = Due.hung(19, 31, 31, 31, 31, 31, 31);
        Due.hangAll(x, 1, 41, 31);
        // 11500 from peg 0 on, 11520 from peg 1 on: both are held to 9999
        Due.is("held", x.join(1, 0), 0);
        x = Due.hung(18, 31, 31, 31, 31, 31, 31);
        Due.hangAll(x, 1, 41, 31, 49, 49, 49, 49, 49);
        // 5110 or 5120 doubled are held to 9999 ahead of the torn ones
        Due.is("held each time", x.join(1, 0), 0);
    }

    private static void worthIn() {
        LinenSigns x = Due.hung(2, 14, 23, 51);
        // linen is seen to wind 2, the sheet to 8, the stocking to 6; 41 is odd, so the black one says 2
        int[] due = {43, 43, 43, 43, 43, 43, 43, 40, 40};
        due[0] = due[1] = due[2] = 2 + 40 + 1 + 2;
        for (int wind = 0; wind < due.length; wind++) {
            Due.is("worthIn " + wind, x.worthIn(0, wind), due[wind]);
        }
        Due.is("worthIn 9", x.worthIn(0, 9), 0);
        Due.is("worthIn 20", x.worthIn(0, 20), 0);
        Due.is("worthIn: the wind stays", x.count(3), 0);
        Due.is("worthIn: 21", x.worthIn(0, 21), Due.BEYOND);
        Due.is("worthIn: -1", x.worthIn(0, -1), Due.BEYOND);
        Due.is("worthIn: line", x.worthIn(4, 0), Due.BEYOND);
        x.set(0, 0, 2, 9);
        Due.is("worthIn: wet", x.worthIn(0, 11), 2);
        x.wind(11);
        Due.is("worth in this wind", x.worth(0), 2);
    }

    private static void saysAndWinds() {
        LinenSigns x = Due.hung(2, 14, 23, 51);
        Due.is("says: BEYOND is asked first", x.says(4), Due.BEYOND);
        Due.is("winds: BEYOND is asked first", x.winds(-1), Due.BEYOND);
        Due.is("says: no meanings", x.says(0), Due.NONE);
        Due.is("winds: no meanings", x.winds(0), Due.NONE);
        x.means(3, 45);
        x.means(6, 43);
        x.means(1, 0);
        Due.is("says", x.says(0), 3);
        Due.is("winds", x.winds(0), 0b111);
        x.wind(5);
        Due.is("says then", x.says(0), 6);
        Due.is("winds then", x.winds(0), 0b111111000);
        x.wind(20);
        Due.is("says in the strongest", x.says(0), 1);
        Due.is("winds in the strongest", x.winds(0), (1 << 21) - (1 << 9));
    }

    private static void lost() {
        LinenSigns x = Due.hung(5, 32, 33, 21, 1, 51);
        // 5 10 20 21 22 22
        Due.is("lost: BEYOND is asked first", x.lost(9), Due.BEYOND);
        Due.is("lost: no meanings", x.lost(0), Due.NONE);
        x.means(2, 22);
        Due.is("lost: there's no other", x.lost(0), 0);
        x.means(4, 21);
        // without each: 2, 12, 12, 22 (the black one says 1), 23 (it says 2), 22
        Due.is("lost", x.lost(0), 0b000111);
        x.means(4, 23);
        Due.is("lost: by what a black one says then", x.lost(0), 0b010000);
        x.means(4, 12);
        x.wind(3);
        // 5 10 11 13: the red one of 2 and linen of 1 aren't seen, and it's read as 12 without any of them
        Due.is("lost: in this wind", x.lost(0), 0);
        Due.is("lost: nothing is changed", x.count(0), 6);
        Due.is("lost: an empty line", x.lost(1), 0);
    }

    private static void fewestAndWhich() {
        LinenSigns x = Due.hung(1, 2, 4, 1, 2, 4, 9);
        Due.is("fewest: no number", x.fewest(0, 0), Due.NONE);
        Due.is("which: no number", x.which(0, 0), Due.NONE);
        Due.is("fewest: BEYOND line", x.fewest(4, 0), Due.BEYOND);
        Due.is("fewest: BEYOND meaning", x.fewest(0, 10), Due.BEYOND);
        Due.is("which: BEYOND line", x.which(-1, 0), Due.BEYOND);
        Due.is("which: BEYOND meaning", x.which(0, -1), Due.BEYOND);
        Due.means(x, 23, 22, 21, 19, 18, 8, 0, 500, 23, 17);
        // 8 is what 4 to 12 are read as: linen of 2 and of 9 are off; 17: 13 to 17, the 9 is off;
        // 0: 3 at most may stay, the 1 and the 2 farthest behind
        int[] fewest = {0, 1, 1, 1, 2, 2, 5, -1, -1, 1};
        int[] which = {0, 1, 2, 4, 5, 0b1000010, 0b1100111, -1, -1, 0b1000000};
        for (int meaning = 0; meaning < 10; meaning++) {
            int few = fewest[meaning];
            Due.is("fewest " + meaning, x.fewest(0, meaning), few < 0 ? Due.NONE : few);
            Due.is("which " + meaning, x.which(0, meaning), few < 0 ? Due.NONE : which[meaning]);
        }
        Due.is("fewest: nothing is changed", x.worth(0), 23);
        LinenSigns y = Due.hung(19, 18);
        Due.means(y, 0, 300);
        Due.is("fewest: one of them", y.fewest(0, 0), 1);
        Due.is("which: of two alone the least", y.which(0, 0), 1);
        y.means(1, 60);
        Due.is("fewest: all of them", y.fewest(0, 0), 2);
        Due.is("which: all of them", y.which(0, 0), 3);
        y.wind(20);
        Due.is("fewest: in this wind", y.fewest(0, 0), 0);
        y.wind(0);
        Due.hangAll(y, 0, 11, 11, 11, 11, 11);
        y.means(1, 5);
        Due.is("fewest: all seven", y.fewest(0, 0), 7);
        Due.is("which: all seven", y.which(0, 0), 127);
        Due.is("fewest: an empty line", y.fewest(3, 0), 0);
        Due.is("fewest: an empty line can't", y.fewest(3, 1), Due.NONE);
    }

    private static void more() {
        LinenSigns x = Due.hung(19, 5);
        // 95
        Due.is("more: no number", x.more(0, 0), Due.NONE);
        Due.is("more: BEYOND line", x.more(4, 0), Due.BEYOND);
        Due.is("more: BEYOND meaning", x.more(0, 10), Due.BEYOND);
        Due.means(x, 95, 96, 104, 105, 185, 190, 5, 700, 98, 45);
        // linen makes 96 to 104, a sheet 105 to 185, a stocking 96, a red one 190, a torn one 85 to 5
        int[] due = {41, 1, 6, 11, 16, 31, 47, Due.NONE, 3, 43};
        for (int meaning = 0; meaning < 10; meaning++) {
            Due.is("more " + meaning, x.more(0, meaning), due[meaning]);
        }
        x.wind(3);
        Due.is("more: one that isn't seen changes nothing", x.more(0, 0), 1);
        x.wind(0);
        x.forget(1);
        Due.is("more: nearest then", x.more(0, 0), 1);
        LinenSigns full = Due.hung(1, 1, 1, 1, 1, 1, 1);
        Due.means(full, 7, 27);
        Due.is("more: there needs no room", full.more(0, 1), 12);
        Due.is("more: nothing is hung", full.count(0), 7);
        Due.hangAll(full, 1, 21, 21);
        Due.means(full, -10, 6);
        full.means(2, 5);
        // 3: a third stocking makes 6, as linen of 3 does
        Due.is("more: linen is less than a stocking", full.more(1, 1), 3);
        full.wind(4);
        // linen below 4 isn't seen then, and of 4 makes 7
        Due.is("more: what isn't seen says nothing", full.more(1, 1), 4);
    }
}
