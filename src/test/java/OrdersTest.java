/** Promises 26 to 31: orders. */
public final class OrdersTest {
    public static void main(String[] args) {
        orders();
        mostAndLeast();
        order();
        worths();
        can();
        beyond();
        Due.end();
    }

    private static void orders() {
        LinenSigns x = Due.hung(1, 2, 31);
        // doubled: nothing (3), 1 (4), 2 (5), both (6); by orders of three: 2, 1, 1, 2
        Due.is("orders: no number", x.orders(0, 0), Due.NONE);
        Due.means(x, 3, 4, 5, 6, 7);
        int[] due = {2, 1, 1, 2, 0};
        for (int meaning = 0; meaning < 5; meaning++) {
            Due.is("orders " + meaning, x.orders(0, meaning), due[meaning]);
        }
        Due.is("orders: an empty line, one order", x.orders(1, 0), 1);
        Due.is("orders: an empty line, not so", x.orders(1, 1), 0);
        x = Due.hung(5, 5, 5, 5, 5, 5, 5);
        Due.means(x, 35, 34);
        Due.is("orders: like ones are told apart", x.orders(0, 0), 5040);
        Due.is("orders: none of them", x.orders(0, 1), 0);
        Due.is("orders: asked again", x.orders(0, 0), 5040);
        Due.hangAll(x, 1, 12, 11, 31);
        Due.means(x, 40, 50, 30, 60);
        Due.is("orders: sheets of two sizes, the less one doubled", x.orders(1, 0), 1);
        Due.is("orders: sheets of two sizes, the other one doubled", x.orders(1, 1), 1);
        Due.is("orders: sheets of two sizes, none doubled", x.orders(1, 2), 2);
        Due.is("orders: sheets of two sizes, both doubled", x.orders(1, 3), 2);
        Due.hangAll(x, 2, 42, 41, 31);
        Due.means(x, -40, -50, -30, -60);
        Due.is("orders: torn ones, the less one doubled", x.orders(2, 0), 1);
        Due.is("orders: torn ones, the other one doubled", x.orders(2, 1), 1);
        x = Due.hung(5, 5, 31, 32, 22);
        x.wind(6);
        x.means(3, 1);
        Due.is("orders: those that aren't seen, too", x.orders(0, 3), 120);
        x = Due.hung(9, 31, 1, 2);
        x.wind(1);
        Due.means(x, 24, 12);
        // the red one last: 24, 6 orders; first: 12, 6 orders; 12 + 9 + .. in between
        Due.is("orders: nearest", x.orders(0, 0) + x.orders(0, 1), 24);
        x.wind(2);
        // 9 and 2 alone
        Due.is("orders: in this wind", x.orders(0, 1), 24);
    }

    private static void mostAndLeast() {
        LinenSigns x = Due.hung(31, 15, 44, 7);
        // the torn one behind the red one: (50 + 7) * 2 - 40; ahead of it: 7 + 50 + 2 * -40
        Due.is("most", x.most(0), 74);
        Due.is("least", x.least(0), -23);
        Due.row(x, 0, "31 15 44 7");
        x.wind(9);
        Due.is("most: in this wind", x.most(0), 50);
        Due.is("least: in this wind", x.least(0), 50);
        Due.is("most: an empty line", x.most(2), 0);
        Due.is("least: an empty line", x.least(2), 0);
        x = Due.hung(47, 47);
        Due.is("most: below 0", x.most(0), -140);
        x = Due.hung(17, 17);
        Due.is("least: above 0", x.least(0), 140);
    }

    private static void order() {
        LinenSigns x = Due.hung(31, 2, 1);
        x.set(0, 1, 2, 4);
        Due.is("order: 4", x.order(0, 4), 4);
        Due.row(x, 0, "1 31 2");
        Due.is("order: wet goes along", x.of(0, 2, 2), 4);
        Due.is("order: 6", x.order(0, 9999), 6);
        Due.row(x, 0, "1 2 31");
        Due.is("order: 3", x.order(0, -9999), 3);
        Due.row(x, 0, "31 1 2");
        x = Due.hung(31, 9, 1);
        // 10 10 11 19 20 20: 15 is 4 from 11 and from 19; 9 31 1 comes ahead of 1 31 9 by pegs
        Due.is("order: as near above as below", x.order(0, 15), 19);
        Due.row(x, 0, "9 31 1");
        x = Due.hung(31, 1, 9);
        Due.is("order: as near below as above", x.order(0, 15), 11);
        Due.row(x, 0, "1 31 9");
        x = Due.hung(5, 5, 4, 5);
        x.set(0, 0, 2, 1);
        x.set(0, 1, 2, 2);
        x.set(0, 3, 2, 3);
        Due.is("order: all the same, so the first", x.order(0, 0), 19);
        Due.is("order: wet 0", x.of(0, 0, 2), 1);
        Due.is("order: wet 1", x.of(0, 1, 2), 2);
        Due.is("order: wet 3", x.of(0, 3, 2), 3);
        x = Due.hung(31, 1, 32, 7);
        x.wind(2);
        // linen of 1 and the red one of 1 aren't seen: 7 then 32
        Due.is("order: in this wind", x.order(0, 9999), 14);
        Due.row(x, 0, "31 1 7 32");
        Due.is("order: an empty line", x.order(3, 7), 0);
        Due.is("order: -10000", x.order(0, -10000), Due.BEYOND);
        Due.is("order: 10000", x.order(0, 10000), Due.BEYOND);
        Due.row(x, 0, "31 1 7 32");
    }

    private static void worths() {
        Due.is("worths", Due.hung(1, 2, 31).worths(0), 4);
        Due.is("worths: all alike", Due.hung(1, 2, 13).worths(0), 1);
        Due.is("worths: an empty line", new LinenSigns().worths(0), 1);
        LinenSigns x = Due.hung(21, 1, 21);
        // the two behind one another 4, parted 3
        Due.is("worths: stockings", x.worths(0), 2);
        x.wind(2);
        Due.is("worths: in this wind", x.worths(0), 1);
    }

    private static void can() {
        LinenSigns x = Due.hung(1, 2, 31);
        Due.is("can: no meanings", x.can(0), Due.NONE);
        Due.is("can: BEYOND is asked first", x.can(4), Due.BEYOND);
        Due.means(x, 4, 500, 5, 6, -1, 0, 4);
        Due.is("can", x.can(0), 0b1101);
        Due.is("can: an empty line", x.can(1), 0b100000);
        x.wind(3);
        Due.is("can: in this wind", x.can(0), 0b100000);
        x = Due.hung(9, 49, 31);
        Due.means(x, -162);
        x.means(9, 18);
        Due.is("can: below 0 alone", x.can(0), 1);
    }

    private static void beyond() {
        LinenSigns x = new LinenSigns();
        int[] lines = {-1, 4, Integer.MAX_VALUE, Integer.MIN_VALUE};
        for (int line : lines) {
            Due.is("orders: line", x.orders(line, 0), Due.BEYOND);
            Due.is("most: line", x.most(line), Due.BEYOND);
            Due.is("least: line", x.least(line), Due.BEYOND);
            Due.is("order: line", x.order(line, 0), Due.BEYOND);
            Due.is("worths: line", x.worths(line), Due.BEYOND);
            Due.is("can: line", x.can(line), Due.BEYOND);
        }
        Due.is("orders: meaning 10", x.orders(0, 10), Due.BEYOND);
        Due.is("orders: meaning -1", x.orders(0, -1), Due.BEYOND);
    }
}
