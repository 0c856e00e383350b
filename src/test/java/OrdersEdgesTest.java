import java.util.ArrayList;
import java.util.Arrays;
import java.util.List;

/** Promises 26 to 31, each sentence that names a boundary; what is refused stands in RefusedTest. */
public final class OrdersEdgesTest {
    public static void main(String[] args) {
        oneOrderWithoutAny();
        likeOnesAreToldApart();
        allOrdersAreCounted();
        ordersNoneOrZero();
        ordersInThisWind();
        mostAndLeastOfNoneAndOne();
        mostAndLeastOfSeven();
        leastAskedFirst();
        orderOfNoneAndOne();
        orderByTheFarthestNumbers();
        orderAsNearBothWays();
        orderTheFirstByPegs();
        orderOfSeven();
        orderLeavesOthers();
        worthsOfNoneOneAndSeven();
        worthsBelowAndAboveZero();
        canLeastAndGreatestMeaning();
        canOfAnEmptyLine();
        canOnlyWhatIsRead();
        canEachWorth();
        allRowsHungByHand();
        Due.end();
    }

    // ---- promise 26

    /** "one ORDER without any". */
    private static void oneOrderWithoutAny() {
        for (int line = 0; line < 4; line++) {
            LinenSigns x = new LinenSigns();
            Due.means(x, 1, 0);
            Due.is("orders of none: not so", x.orders(line, 0), 0);
            Due.is("orders of none", x.orders(line, 1), 1);
        }
    }

    private static void likeOnesAreToldApart() {
        int[] due = {1, 1, 2, 6, 24, 120, 720, 5040};
        for (int kind = 0; kind < 6; kind++) {
            LinenSigns x = new LinenSigns();
            x.means(9, 0);
            Due.is("orders of none", x.orders(0, 9), 1);
            for (int n = 1; n <= 7; n++) {
                x.hang(0, kind, 5);
                Due.is("orders of " + n + " of kind " + kind, x.orders(0, 9), due[n]);
            }
        }
    }

    /** Each order is read as something: those of all meanings are all of them. */
    private static void allOrdersAreCounted() {
        int[][] rows = {{1, 12, 23, 34, 45, 56, 7}, {31, 31, 5, 5, 21, 51, 21}, {19, 31, 49, 31, 1, 51, 51}};
        for (int[] row : rows) {
            LinenSigns x = Due.hung(row);
            Due.means(x, 60, 0, -30, 20, 95, 14, 15, 100, -200, 300);
            int all = 0;
            for (int meaning = 0; meaning < 10; meaning++) {
                all += x.orders(0, meaning);
            }
            Due.is("orders of all meanings", all, 5040);
        }
        LinenSigns x = Due.hung(31, 5);
        Due.means(x, 5, 10);
        Due.is("the one order", x.orders(0, 0), 1);
        Due.is("the other order", x.orders(0, 1), 1);
    }

    /** "NONE: the MEANING has no NUMBER"; one that is in no order isn't refused. */
    private static void ordersNoneOrZero() {
        LinenSigns x = Due.hung(1, 2, 3);
        x.means(5, 6);
        Due.is("all", x.orders(0, 5), 6);
        Due.is("no number", x.orders(0, 6), Due.NONE);
        x.means(6, 9999);
        Due.is("in none", x.orders(0, 6), 0);
        x.forget(5);
        Due.is("forgotten", x.orders(0, 5), Due.NONE);
        Due.is("one is left, so all", x.orders(0, 6), 6);
        Due.is("NONE told", x.status(3), 2);
    }

    /** "in this WIND": what isn't SEEN says nothing, but hangs in each order. */
    private static void ordersInThisWind() {
        LinenSigns x = Due.hung(31, 5, 9);
        Due.means(x, 14, 28, 19, 23);
        int[] calm = {2, 2, 1, 1};
        for (int meaning = 0; meaning < 4; meaning++) {
            Due.is("orders, calm " + meaning, x.orders(0, meaning), calm[meaning]);
        }
        x.wind(1);
        Due.is("the red one is seen in 1", x.orders(0, 1), 2);
        x.wind(2);
        Due.is("it isn't in 2", x.orders(0, 0), 6);
        x.wind(10);
        Due.is("nothing is in 10", x.orders(0, 0), 6);
        x.means(4, 0);
        Due.is("nothing is in 10, and 0 has a meaning", x.orders(0, 4), 6);
    }

    // ---- promises 27 and 28

    private static void mostAndLeastOfNoneAndOne() {
        for (int line = 0; line < 4; line++) {
            LinenSigns x = new LinenSigns();
            Due.is("most of none", x.most(line), 0);
            Due.is("least of none", x.least(line), 0);
            x.hang(line, 4, 9);
            Due.is("most of one", x.most(line), -90);
            Due.is("least of one", x.least(line), -90);
            x.turn(line, 0, 1);
            Due.is("most of one sheet", x.most(line), 90);
            Due.is("least of one sheet", x.least(line), 90);
            x.wind(19);
            Due.is("most of one that isn't seen", x.most(line), 0);
            Due.is("least of one that isn't seen", x.least(line), 0);
        }
    }

    private static void mostAndLeastOfSeven() {
        LinenSigns x = Due.hung(31, 31, 31, 31, 31, 31, 19);
        Due.is("most of seven", x.most(0), 5760);
        Due.is("least of seven", x.least(0), 90);
        x.turn(0, 6, 4);
        Due.is("most of seven, torn", x.most(0), -90);
        Due.is("least of seven, torn", x.least(0), -5760);
        x = Due.hung(49, 31, 31, 31, 31, 31, 19);
        // all doubled five times, then taken back, or the other way round
        Due.is("most of both", x.most(0), 2880 - 90);
        Due.is("least of both", x.least(0), -2880 + 90);
        Due.row(x, 0, "49 31 31 31 31 31 19");
    }

    private static void leastAskedFirst() {
        LinenSigns x = Due.hung(31, 19);
        Due.is("least", x.least(0), 90);
        Due.is("least of another line", x.least(1), 0);
        x.turn(0, 1, 4);
        Due.is("least then", x.least(0), -180);
        x.wind(2);
        Due.is("least in another wind", x.least(0), -90);
        x = Due.hung(31, 19);
        Due.is("most", x.most(0), 180);
        Due.is("most of another line", x.most(1), 0);
    }

    // ---- promise 29

    private static void orderOfNoneAndOne() {
        LinenSigns x = new LinenSigns();
        Due.is("order of none", x.order(0, 9999), 0);
        Due.is("nothing hangs", x.count(0), 0);
        x.hang(0, 1, 3);
        x.set(0, 0, 2, 8);
        Due.is("order of one", x.order(0, -9999), 30);
        Due.row(x, 0, "13");
        Due.is("as wet", x.of(0, 0, 2), 8);
    }

    /** "a number (-9999 to 9999)". */
    private static void orderByTheFarthestNumbers() {
        LinenSigns x = Due.hung(31, 19, 32);
        Due.is("order 9999", x.order(0, 9999), 360);
        Due.row(x, 0, "19 31 32");
        Due.is("order -9999", x.order(0, -9999), 90);
        Due.row(x, 0, "31 32 19");
        Due.is("order 180", x.order(0, 180), 180);
        Due.row(x, 0, "31 19 32");
        Due.is("order 134: nearer to 90", x.order(0, 134), 90);
        Due.is("order 136: nearer to 180", x.order(0, 136), 180);
        Due.is("order 10000", x.order(0, 10000), Due.BEYOND);
        Due.is("order -10000", x.order(0, -10000), Due.BEYOND);
    }

    /** "of several the first (by PEGS on which they hung ..)", be it above or below the number. */
    private static void orderAsNearBothWays() {
        LinenSigns x = Due.hung(31, 6);
        Due.is("6 and 12 are as near to 9: it stays", x.order(0, 9), 6);
        Due.row(x, 0, "31 6");
        Due.is("8 is nearer to 6", x.order(0, 8), 6);
        Due.is("10 is nearer to 12", x.order(0, 10), 12);
        Due.row(x, 0, "6 31");
        Due.is("9: it stays, as it hangs otherwise now", x.order(0, 9), 12);
        Due.row(x, 0, "6 31");
    }

    private static void orderTheFirstByPegs() {
        LinenSigns x = Due.hung(7, 6, 5, 4, 3, 2, 1);
        Due.is("all are as near: it stays", x.order(0, 0), 28);
        Due.row(x, 0, "7 6 5 4 3 2 1");
        x = Due.hung(31, 8, 2);
        // 20: pegs 1 2 0 come ahead of 2 1 0
        Due.is("20", x.order(0, 20), 20);
        Due.row(x, 0, "8 2 31");
        x = Due.hung(8, 31, 2);
        // 10: pegs 1 0 2 come ahead of 1 2 0
        Due.is("10", x.order(0, 10), 10);
        Due.row(x, 0, "31 8 2");
        x = Due.hung(31, 5, 5, 5);
        x.set(0, 1, 2, 1);
        x.set(0, 2, 2, 2);
        x.set(0, 3, 2, 3);
        Due.is("20: two are doubled not", x.order(0, 20), 20);
        Due.row(x, 0, "5 31 5 5");
        Due.is("the first of like ones", x.of(0, 0, 2), 1);
        Due.is("the second of like ones", x.of(0, 2, 2), 2);
        Due.is("the third of like ones", x.of(0, 3, 2), 3);
        x = Due.hung(1, 31, 9);
        x.wind(2);
        // neither linen of 1 nor the red one is seen: all orders are worth 9
        Due.is("what isn't seen stays, too", x.order(0, 9999), 9);
        Due.row(x, 0, "1 31 9");
    }

    private static void orderOfSeven() {
        LinenSigns x = Due.hung(31, 32, 33, 34, 35, 36, 19);
        for (int peg = 0; peg < 7; peg++) {
            x.set(0, peg, 2, peg);
        }
        Due.is("greatest", x.order(0, 9999), 5760);
        Due.row(x, 0, "19 31 32 33 34 35 36");
        Due.is("wet goes along", x.of(0, 0, 2), 6);
        Due.is("wet goes along to the last", x.of(0, 6, 2), 5);
        Due.is("least", x.order(0, 0), 90);
        Due.row(x, 0, "31 32 33 34 35 36 19");
        Due.is("wet is back", x.of(0, 0, 2), 0);
    }

    private static void orderLeavesOthers() {
        LinenSigns x = Due.hung(31, 5);
        x.like(1, 0);
        x.like(3, 0);
        Due.is("order", x.order(1, 10), 10);
        Due.row(x, 0, "31 5");
        Due.row(x, 1, "5 31");
        Due.row(x, 3, "31 5");
    }

    // ---- promise 30

    private static void worthsOfNoneOneAndSeven() {
        for (int line = 0; line < 4; line++) {
            LinenSigns x = new LinenSigns();
            Due.is("worths of none", x.worths(line), 1);
            for (int n = 1; n <= 7; n++) {
                x.hang(line, 0, n);
                Due.is("worths of linen", x.worths(line), 1);
            }
            x.turn(line, 0, 3);
            // linen of 2 to 7: each sum of some of them is doubled: 0, 2 to 25, 27 (27 less 2 to 25)
            Due.is("worths of linen and a red one", x.worths(line), 26);
            x.wind(2);
            Due.is("worths of linen alone, as the red one isn't seen", x.worths(line), 1);
        }
    }

    private static void worthsBelowAndAboveZero() {
        LinenSigns x = Due.hung(31, 49, 19);
        // 0 (both ahead or behind), -90, 90
        Due.is("worths", x.worths(0), 3);
        x.turn(0, 1, 1);
        // 180, 270, 360
        Due.is("worths of sheets", x.worths(0), 3);
        x = Due.hung(31, 32, 33, 34, 35, 36, 19);
        Due.is("worths to 5760", x.worths(0), 7);
        x.turn(0, 6, 4);
        Due.is("worths to -5760", x.worths(0), 7);
        Due.is("asked again", x.worths(0), 7);
        Due.is("asked of an empty line then", x.worths(1), 1);
    }

    // ---- promise 31

    private static void canLeastAndGreatestMeaning() {
        LinenSigns x = Due.hung(31, 32, 33, 34, 35, 36, 19);
        Due.means(x, 90, 180, 360, 720, 1440, 2880, 5760, 5, -999, 9999);
        // 0 to 6 are met; 9999 is too far
        Due.is("can", x.can(0), 0b0001111111);
        x.means(9, 5760);
        x.means(6, 9999);
        Due.is("can: 9 for 6", x.can(0), 0b1000111111);
        x.turn(0, 6, 4);
        // all are below 0: -90 is nearest to 5, the rest to -999 (-360 is 365 from 5)
        Due.is("can below 0", x.can(0), 0b0110000000);
        for (int meaning = 0; meaning < 10; meaning++) {
            LinenSigns one = Due.hung(5);
            one.means(meaning, 9999);
            Due.is("can: one meaning", one.can(0), 1 << meaning);
        }
    }

    private static void canOfAnEmptyLine() {
        LinenSigns x = new LinenSigns();
        Due.is("no meanings", x.can(0), Due.NONE);
        x.means(9, 1);
        x.means(8, -1);
        Due.is("can of none", x.can(0), 1 << 8);
        x.forget(8);
        Due.is("can of none, one meaning", x.can(3), 1 << 9);
        x.forget(9);
        Due.is("none left", x.can(0), Due.NONE);
    }

    private static void canOnlyWhatIsRead() {
        LinenSigns x = Due.hung(31, 6);
        Due.means(x, 9, 9, 5, 13);
        // 6: nearest to 5, 12: nearest to 13
        Due.is("can: not what lies between", x.can(0), 0b1100);
        x.means(1, 12);
        x.means(3, 12);
        Due.is("can: of several the least", x.can(0), 0b0110);
        x.wind(7);
        Due.is("can: nothing is seen", x.can(0), 0b0100);
    }

    /** Each worth from -89 to 98 on its own, between two others that have meanings. */
    private static void canEachWorth() {
        for (int worth = -89; worth <= 98; worth++) {
            LinenSigns x = new LinenSigns();
            int tens = Math.floorDiv(worth, 10);
            if (tens != 0) {
                x.hang(0, tens < 0 ? 4 : 1, Math.abs(tens));
            }
            if (worth != 10 * tens) {
                x.hang(0, 0, worth - 10 * tens);
            }
            Due.means(x, worth - 1, worth + 1);
            x.means(9, worth);
            Due.is("can: worth " + worth, x.can(0), 1 << 9);
            Due.is("worths: worth " + worth, x.worths(0), 1);
        }
    }

    // ---- "all rows of its GARMENTS", each hung by hand and asked for its WORTH

    private static final int[][] ROWS = {
        {}, {57}, {31, 4}, {21, 5, 21}, {11, 2, 31}, {12, 31, 11, 49}, {42, 31, 41, 1}, {12, 3, 21, 31, 41},
        {21, 51, 21, 51, 1}, {22, 13, 31, 4, 1, 51}, {23, 22, 21, 32, 31, 3}, {31, 19, 32, 48, 7, 51, 21},
        {21, 22, 51, 52, 3, 31, 1}, {4, 13, 22, 31, 5, 14, 41}, {9, 18, 27, 36, 45, 54, 33}};

    private static void allRowsHungByHand() {
        for (int[] row : ROWS) {
            for (int wind : new int[] {0, 3, 6}) {
                byHand(row, wind);
            }
        }
    }

    private static void byHand(int[] row, int wind) {
        List<int[]> all = new ArrayList<>();
        addOrders(all, new int[row.length], 0, 0);
        int[] worths = new int[all.size()];
        for (int i = 0; i < worths.length; i++) {
            worths[i] = hungBy(row, all.get(i), wind).worth(0);
        }
        int most = Arrays.stream(worths).max().getAsInt();
        int least = Arrays.stream(worths).min().getAsInt();
        String name = Arrays.toString(row) + " in wind " + wind + ": ";
        LinenSigns x = hungBy(row, all.get(0), wind);
        int[] numbers = {14, 7, 40, Math.max(-999, least), most, (least + most) / 2, -35, 0, 8};
        Due.means(x, numbers);
        Due.is(name + "most", x.most(0), most);
        Due.is(name + "least", x.least(0), least);
        Due.is(name + "worths", x.worths(0), Arrays.stream(worths).distinct().count());
        int can = 0;
        for (int meaning = 0; meaning < 9; meaning++) {
            int asked = meaning;
            long readSo = Arrays.stream(worths).filter(worth -> nearest(numbers, worth) == asked).count();
            Due.is(name + "orders", x.orders(0, meaning), readSo);
            can |= readSo > 0 ? 1 << meaning : 0;
        }
        Due.is(name + "can", x.can(0), can);
        for (int number : new int[] {-9999, 9999, least + 1, most - 1, (least + most) / 2, 13, -20}) {
            int first = 0;
            for (int i = 0; i < worths.length; i++) {
                first = Math.abs(worths[i] - number) < Math.abs(worths[first] - number) ? i : first;
            }
            LinenSigns y = hungBy(row, all.get(0), wind);
            Due.is(name + "order " + number, y.order(0, number), worths[first]);
            Due.row(y, 0, Due.row(hungBy(row, all.get(first), wind), 0));
        }
    }

    private static int nearest(int[] numbers, int worth) {
        int nearest = 0;
        for (int i = 1; i < numbers.length; i++) {
            nearest = Math.abs(numbers[i] - worth) < Math.abs(numbers[nearest] - worth) ? i : nearest;
        }
        return nearest;
    }

    /** All orders, the least pegs first. */
    private static void addOrders(List<int[]> all, int[] pegs, int place, int hung) {
        if (place == pegs.length) {
            all.add(pegs.clone());
        }
        for (int peg = 0; peg < pegs.length; peg++) {
            if ((hung >> peg & 1) == 0) {
                pegs[place] = peg;
                addOrders(all, pegs, place + 1, hung | 1 << peg);
            }
        }
    }

    private static LinenSigns hungBy(int[] row, int[] pegs, int wind) {
        LinenSigns x = new LinenSigns();
        x.wind(wind);
        for (int peg : pegs) {
            x.hang(0, row[peg] / 10, row[peg] % 10);
        }
        return x;
    }
}
