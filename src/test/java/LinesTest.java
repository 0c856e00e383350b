/** Promises 1 to 12: a new object, lines, wind and days. */
public final class LinesTest {
    public static void main(String[] args) {
        newObject();
        hang();
        off();
        of();
        seen();
        set();
        turn();
        as();
        swap();
        takeAndLike();
        wind();
        days();
        Due.end();
    }

    private static void newObject() {
        LinenSigns x = new LinenSigns();
        for (int what = 0; what <= 4; what++) {
            Due.is("new: count(" + what + ")", x.count(what), 0);
        }
        Due.is("new: status(-1)", x.status(-1), 0);
        Due.is("new: undo()", x.undo(), Due.NONE);
        Due.is("new: wipe()", x.wipe(), 0);
        for (int meaning = 0; meaning < 10; meaning++) {
            Due.is("new: number", x.number(meaning), Due.NONE);
        }
        for (int s = 0; s < 4; s++) {
            Due.is("new: write", x.write(s, 0, 1), Due.MISSING);
            Due.is("new: take", x.take(s), 0);
        }
    }

    private static void hang() {
        LinenSigns x = new LinenSigns();
        for (int line = 0; line < 4; line++) {
            for (int peg = 0; peg < 7; peg++) {
                Due.is("hang", x.hang(line, peg % 6, 9 - peg), peg);
                Due.is("hung dry", x.of(line, peg, 2), 0);
            }
        }
        Due.row(x, 3, "9 18 27 36 45 54 3");
        Due.is("hang: eighth", x.hang(1, 0, 1), Due.FULL);
        Due.is("hang: line -1", x.hang(-1, 0, 1), Due.BEYOND);
        Due.is("hang: line 4", x.hang(4, 0, 1), Due.BEYOND);
        Due.is("hang: kind -1 on a full line", x.hang(0, -1, 1), Due.BEYOND);
        Due.is("hang: kind 6", x.hang(0, 6, 1), Due.BEYOND);
        Due.is("hang: size 0", x.hang(0, 0, 0), Due.BEYOND);
        Due.is("hang: size 10", x.hang(0, 0, 10), Due.BEYOND);
        Due.is("hang: least int", x.hang(Integer.MIN_VALUE, Integer.MAX_VALUE, 0), Due.BEYOND);
        Due.is("hang: findings change nothing", x.count(0), 28);
        Due.is("FULL told", x.status(1), 1);
        Due.is("BEYOND told", x.status(0), 7);
    }

    private static void off() {
        LinenSigns x = Due.hung(1, 12, 23, 34, 45, 56, 7);
        x.set(0, 3, 2, 8);
        Due.is("off", x.off(0, 2), 3);
        Due.row(x, 0, "1 12 34 45 56 7");
        Due.is("off: wet goes along", x.of(0, 2, 2), 8);
        Due.is("off: wet only there", x.of(0, 3, 2), 0);
        Due.is("off: beyond the end", x.off(0, 6), Due.BEYOND);
        Due.is("off: -1", x.off(0, -1), Due.BEYOND);
        Due.is("off: line", x.off(4, 0), Due.BEYOND);
        Due.is("off: empty line", x.off(1, 0), Due.BEYOND);
        Due.is("off: last", x.off(0, 5), 7);
        Due.is("off: first", x.off(0, 0), 1);
        Due.row(x, 0, "12 34 45 56");
        x.hang(0, 0, 9);
        Due.is("hung dry where a wet one was", x.of(0, 4, 2), 0);
    }

    private static void of() {
        LinenSigns x = Due.hung(4, 13);
        x.set(0, 1, 2, 5);
        int[] due = {1, 3, 5, 1, 34};
        for (int what = 0; what < 5; what++) {
            Due.is("of " + what, x.of(0, 1, what), due[what]);
        }
        Due.is("of 4 ahead", x.of(0, 0, 4), 4);
        Due.is("of: what 5", x.of(0, 0, 5), Due.BEYOND);
        Due.is("of: what -1", x.of(0, 0, -1), Due.BEYOND);
        Due.is("of: peg 2", x.of(0, 2, 0), Due.BEYOND);
        Due.is("of: peg -1", x.of(0, -1, 0), Due.BEYOND);
        Due.is("of: line -1", x.of(-1, 0, 0), Due.BEYOND);
        x.wind(20);
        Due.is("of 4 where it isn't seen", x.of(0, 1, 4), 0);
        Due.is("of 3 where it isn't seen", x.of(0, 1, 3), 0);
    }

    /** Each kind's strongest wind, with size 2 and wet 3. */
    private static void seen() {
        int[] strongest = {5, 10, 8, 5, 10, 20};
        for (int kind = 0; kind < 6; kind++) {
            LinenSigns x = new LinenSigns();
            x.hang(2, kind, 2);
            x.set(2, 0, 2, 3);
            for (int wind = 0; wind <= 20; wind++) {
                x.wind(wind);
                Due.is("seen: kind " + kind + " in " + wind, x.of(2, 0, 3), wind <= strongest[kind] ? 1 : 0);
            }
        }
    }

    private static void set() {
        LinenSigns x = Due.hung(25);
        Due.is("set size", x.set(0, 0, 1, 9), 5);
        Due.is("set size again", x.set(0, 0, 1, 1), 9);
        Due.is("set wet", x.set(0, 0, 2, 9), 0);
        Due.is("set wet again", x.set(0, 0, 2, 0), 9);
        Due.is("set: size 0", x.set(0, 0, 1, 0), Due.BEYOND);
        Due.is("set: size 10", x.set(0, 0, 1, 10), Due.BEYOND);
        Due.is("set: wet -1", x.set(0, 0, 2, -1), Due.BEYOND);
        Due.is("set: wet 10", x.set(0, 0, 2, 10), Due.BEYOND);
        Due.is("set: what 0", x.set(0, 0, 0, 1), Due.BEYOND);
        Due.is("set: what 3", x.set(0, 0, 3, 1), Due.BEYOND);
        Due.is("set: peg", x.set(0, 1, 1, 1), Due.BEYOND);
        Due.is("set: line", x.set(7, 0, 1, 1), Due.BEYOND);
        Due.row(x, 0, "21");
        Due.is("set: wet as it was", x.of(0, 0, 2), 0);
    }

    private static void turn() {
        LinenSigns x = Due.hung(4, 13);
        x.set(0, 1, 2, 6);
        Due.is("turn", x.turn(0, 1, 5), 1);
        Due.is("turn to its own", x.turn(0, 1, 5), 5);
        Due.row(x, 0, "4 53");
        Due.is("turn: as wet", x.of(0, 1, 2), 6);
        Due.is("turn: kind 6", x.turn(0, 1, 6), Due.BEYOND);
        Due.is("turn: kind -1", x.turn(0, 1, -1), Due.BEYOND);
        Due.is("turn: peg", x.turn(0, 2, 0), Due.BEYOND);
        Due.is("turn: line", x.turn(-1, 0, 0), Due.BEYOND);
        Due.row(x, 0, "4 53");
    }

    private static void as() {
        String[] above = {"0", "01", "02", "03", "014", "025"};
        for (int kind = 0; kind < 6; kind++) {
            LinenSigns x = new LinenSigns();
            x.hang(1, kind, 7);
            for (int wanted = 0; wanted < 6; wanted++) {
                boolean isOne = above[kind].indexOf('0' + wanted) >= 0;
                Due.is("as: " + kind + " as " + wanted, x.as(1, 0, wanted), isOne ? 7 : Due.KIND);
            }
            Due.is("as: kind 6", x.as(1, 0, 6), Due.BEYOND);
            Due.is("as: kind -1", x.as(1, 0, -1), Due.BEYOND);
            Due.is("as: no such one", x.as(1, 1, 0), Due.BEYOND);
            Due.is("as: no such line", x.as(4, 0, 0), Due.BEYOND);
        }
    }

    private static void swap() {
        LinenSigns x = Due.hung(1, 12, 23, 34);
        x.set(0, 3, 2, 4);
        Due.is("swap", x.swap(0, 3, 1), 2);
        Due.row(x, 0, "1 34 23 12");
        Due.is("swap: wet too", x.of(0, 1, 2), 4);
        Due.is("swap: dry too", x.of(0, 3, 2), 0);
        Due.is("swap: the other way round", x.swap(0, 0, 3), 3);
        Due.is("swap: one with itself", x.swap(0, 2, 2), 0);
        Due.row(x, 0, "12 34 23 1");
        Due.is("swap: one", x.swap(0, 4, 0), Due.BEYOND);
        Due.is("swap: other", x.swap(0, 0, 4), Due.BEYOND);
        Due.is("swap: below", x.swap(0, -1, 0), Due.BEYOND);
        Due.is("swap: line", x.swap(4, 0, 0), Due.BEYOND);
        Due.row(x, 0, "12 34 23 1");
    }

    private static void takeAndLike() {
        LinenSigns x = Due.hung(1, 12, 23);
        x.set(0, 1, 2, 7);
        Due.hangAll(x, 3, 55, 45, 35, 25);
        Due.is("like", x.like(3, 0), 3);
        Due.row(x, 3, "1 12 23");
        Due.is("like: wet too", x.of(3, 1, 2), 7);
        x.set(3, 0, 1, 9);
        Due.row(x, 0, "1 12 23");
        Due.is("like: itself", x.like(3, 3), 3);
        Due.row(x, 3, "9 12 23");
        Due.is("like: an empty one", x.like(3, 2), 0);
        Due.row(x, 3, "");
        Due.is("like: line", x.like(4, 0), Due.BEYOND);
        Due.is("like: other", x.like(0, -1), Due.BEYOND);
        Due.is("take", x.take(0), 3);
        Due.is("take again", x.take(0), 0);
        Due.is("take: line", x.take(4), Due.BEYOND);
        Due.is("take: line below", x.take(-1), Due.BEYOND);
        Due.is("nothing hangs", x.count(0), 0);
    }

    private static void wind() {
        LinenSigns x = new LinenSigns();
        Due.is("wind", x.wind(20), 0);
        Due.is("wind: 21", x.wind(21), Due.BEYOND);
        Due.is("wind: -1", x.wind(-1), Due.BEYOND);
        Due.is("wind again", x.wind(0), 20);
        Due.is("wind is", x.count(3), 0);
    }

    private static void days() {
        LinenSigns x = Due.hung(1, 12, 23);
        Due.hangAll(x, 3, 54);
        x.set(0, 0, 2, 2);
        x.set(0, 1, 2, 3);
        x.set(3, 0, 2, 9);
        Due.is("days", x.days(2), 2);
        Due.is("days: 2 less", x.of(0, 1, 2), 1);
        Due.is("days: 0 at least", x.of(0, 0, 2), 0);
        Due.is("days: on each line", x.of(3, 0, 2), 7);
        Due.is("days: 0", x.days(0), Due.BEYOND);
        Due.is("days: 100", x.days(100), Due.BEYOND);
        Due.is("days: -1", x.days(-1), Due.BEYOND);
        Due.is("day", x.count(4), 2);
        for (int i = 0; i < 100; i++) {
            Due.is("days go", x.days(99), 4);
        }
        x.set(0, 0, 2, 5);
        Due.is("day late", x.count(4), 9902);
        Due.is("days: 98 above", x.days(98), Due.STATE);
        Due.is("STATE changes nothing", x.of(0, 0, 2), 5);
        Due.is("days: BEYOND is asked first", x.days(100), Due.BEYOND);
        Due.is("days: to the last", x.days(97), 4);
        Due.is("day last", x.count(4), 9999);
        Due.is("days: one above", x.days(1), Due.STATE);
        Due.is("STATE told", x.status(4), 2);
    }
}
