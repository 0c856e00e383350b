import java.util.function.ToLongFunction;

/**
 * The head of "Terms": each finding of each call, at the first numbers that are refused and far out, and which
 * one is told where two could be; a call that answers a finding changes nothing but status().
 */
public final class RefusedTest {
    private static final int LEAST = Integer.MIN_VALUE;
    private static final int GREATEST = Integer.MAX_VALUE;
    private static final int[] NO_LINE = {-1, 4, LEAST, GREATEST};
    private static final int[] NO_KIND = {-1, 6, LEAST, GREATEST};
    private static final int[] NO_SIZE = {0, 10, -1, LEAST, GREATEST};
    private static final int[] NO_WIND = {-1, 21, LEAST, GREATEST};
    private static final int[] NO_MEANING = {-1, 10, LEAST, GREATEST};
    private static final int[] NO_NUMBER = {-1000, 10000, LEAST, GREATEST};
    private static final int[] NO_WORTH = {-10000, 10000, LEAST, GREATEST};
    private static final int[] NO_SHEET = {-1, 4, LEAST, GREATEST};
    /** None of line 0's pegs, which are seven. */
    private static final int[] NO_PEG = {-1, 7, LEAST, GREATEST};

    private static Rich.State state = Rich.State.ORDINARY;

    public static void main(String[] args) {
        linesRefuse();
        garmentsRefuse();
        windAndDaysRefuse();
        meaningsRefuse();
        sayingsRefuse();
        sayingsWithAMeaningRefuse();
        ordersRefuse();
        twoLinesRefuse();
        tapeRefuses();
        sheetRefuses();
        writeRefuses();
        copyRefuses();
        sheetsWithALineRefuse();
        imagesRefuse();
        Due.end();
    }

    // ---- how it is asked

    private static void refused(String call, int finding, ToLongFunction<LinenSigns> act) {
        LinenSigns x = Rich.town(state);
        int[] told = new int[8];
        for (int which = -1; which < 7; which++) {
            told[which + 1] = x.status(which);
        }
        Due.is(call, act.applyAsLong(x), finding);
        for (int which = -1; which < 7; which++) {
            boolean isIt = which == -1 || which == Due.BEYOND - finding;
            Due.is(call + ": status(" + which + ")", x.status(which), told[which + 1] + (isIt ? 1 : 0));
        }
        Due.holds(call + ": nothing else changes", Rich.look(x).equals(Rich.look(Rich.town(state))));
    }

    private static void beyond(String call, int[] wrong, ToBeyond act) {
        for (int v : wrong) {
            refused(call + " with " + v, Due.BEYOND, x -> act.with(x, v));
        }
    }

    private interface ToBeyond {
        long with(LinenSigns x, int v);
    }

    private static void none(String call, ToLongFunction<LinenSigns> act) {
        refused(call, Due.NONE, act);
    }

    // ---- lines

    private static void linesRefuse() {
        beyond("hang: line", NO_LINE, (x, v) -> x.hang(v, 0, 1));
        beyond("hang: kind", NO_KIND, (x, v) -> x.hang(1, v, 1));
        beyond("hang: size", NO_SIZE, (x, v) -> x.hang(1, 0, v));
        beyond("hang: kind, on an empty line", NO_KIND, (x, v) -> x.hang(2, v, 9));
        beyond("hang: size, on an empty line", NO_SIZE, (x, v) -> x.hang(2, 5, v));
        beyond("hang: BEYOND kind ahead of FULL", NO_KIND, (x, v) -> x.hang(0, v, 1));
        beyond("hang: BEYOND size ahead of FULL", NO_SIZE, (x, v) -> x.hang(0, 0, v));
        refused("hang: FULL", Due.FULL, x -> x.hang(0, 0, 1));
        refused("hang: FULL, greatest", Due.FULL, x -> x.hang(0, 5, 9));
        beyond("take: line", NO_LINE, (x, v) -> x.take(v));
        beyond("like: line", NO_LINE, (x, v) -> x.like(v, 1));
        beyond("like: other", NO_LINE, (x, v) -> x.like(1, v));
        beyond("like: both", NO_LINE, (x, v) -> x.like(v, v));
    }

    private static void garmentsRefuse() {
        ToBeyond[] byLine = {
            (x, v) -> x.off(v, 0), (x, v) -> x.of(v, 0, 1), (x, v) -> x.set(v, 0, 1, 1), (x, v) -> x.turn(v, 0, 0),
            (x, v) -> x.as(v, 0, 0), (x, v) -> x.swap(v, 0, 0)};
        for (int act = 0; act < byLine.length; act++) {
            beyond("a garment's act " + act + ": line", NO_LINE, byLine[act]);
        }
        byPeg("on a full line", 0, NO_PEG);
        byPeg("on a line of three", 1, new int[] {-1, 3, 6, LEAST, GREATEST});
        byPeg("on an empty line", 2, new int[] {-1, 0, 6});
        byPeg("on a line of one", 3, new int[] {-1, 1});
        beyond("of: what", new int[] {-1, 5, LEAST, GREATEST}, (x, v) -> x.of(1, 0, v));
        beyond("set: what", new int[] {-1, 0, 3, 4, LEAST, GREATEST}, (x, v) -> x.set(1, 0, v, 1));
        beyond("set: size", NO_SIZE, (x, v) -> x.set(1, 0, 1, v));
        beyond("set: wet", new int[] {-1, 10, LEAST, GREATEST}, (x, v) -> x.set(1, 0, 2, v));
        beyond("turn: kind", NO_KIND, (x, v) -> x.turn(1, 2, v));
        beyond("as: kind", NO_KIND, (x, v) -> x.as(1, 2, v));
        refused("as: KIND, a sheet is no stocking", Due.KIND, x -> x.as(1, 0, 2));
        refused("as: KIND, linen is no sheet", Due.KIND, x -> x.as(0, 0, 1));
        refused("as: KIND, a stocking is no black one", Due.KIND, x -> x.as(1, 1, 5));
    }

    private static void byPeg(String where, int line, int[] pegs) {
        beyond("off: peg " + where, pegs, (x, v) -> x.off(line, v));
        beyond("of: peg " + where, pegs, (x, v) -> x.of(line, v, 0));
        beyond("of: worth behind a peg " + where, pegs, (x, v) -> x.of(line, v, 4));
        beyond("set: peg " + where, pegs, (x, v) -> x.set(line, v, 2, 5));
        beyond("turn: peg " + where, pegs, (x, v) -> x.turn(line, v, 5));
        beyond("as: peg " + where, pegs, (x, v) -> x.as(line, v, 0));
        beyond("swap: one " + where, pegs, (x, v) -> x.swap(line, v, 0));
        beyond("swap: other " + where, pegs, (x, v) -> x.swap(line, 0, v));
        beyond("swap: both " + where, pegs, (x, v) -> x.swap(line, v, v));
    }

    private static void windAndDaysRefuse() {
        int[] noDays = {0, 100, -1, LEAST, GREATEST};
        beyond("wind", NO_WIND, (x, v) -> x.wind(v));
        beyond("days", noDays, (x, v) -> x.days(v));
        state = Rich.State.LAST_DAYS;
        beyond("days: BEYOND ahead of STATE", noDays, (x, v) -> x.days(v));
        refused("days: STATE by one", Due.STATE, x -> x.days(3));
        refused("days: STATE by many", Due.STATE, x -> x.days(99));
        state = Rich.State.ORDINARY;
    }

    // ---- meanings

    private static void meaningsRefuse() {
        beyond("means: meaning", NO_MEANING, (x, v) -> x.means(v, 0));
        beyond("means: number", NO_NUMBER, (x, v) -> x.means(3, v));
        beyond("means: number of one that has none", NO_NUMBER, (x, v) -> x.means(4, v));
        beyond("forget", NO_MEANING, (x, v) -> x.forget(v));
        beyond("number", NO_MEANING, (x, v) -> x.number(v));
        none("number: NONE", x -> x.number(4));
        beyond("read", NO_WORTH, (x, v) -> x.read(v));
        state = Rich.State.NO_MEANINGS;
        beyond("read: BEYOND ahead of NONE", NO_WORTH, (x, v) -> x.read(v));
        beyond("number: BEYOND ahead of NONE", NO_MEANING, (x, v) -> x.number(v));
        none("number: NONE, no meanings", x -> x.number(0));
        none("read: NONE", x -> x.read(0));
        none("apart: NONE, no meanings", x -> x.apart());
        state = Rich.State.ORDINARY;
    }

    // ---- what a line says

    private static void sayingsRefuse() {
        beyond("worth", NO_LINE, (x, v) -> x.worth(v));
        beyond("worthIn: line", NO_LINE, (x, v) -> x.worthIn(v, 0));
        beyond("worthIn: wind", NO_WIND, (x, v) -> x.worthIn(0, v));
        for (Rich.State each : new Rich.State[] {Rich.State.ORDINARY, Rich.State.NO_MEANINGS}) {
            state = each;
            beyond("says: line, " + each, NO_LINE, (x, v) -> x.says(v));
            beyond("winds: line, " + each, NO_LINE, (x, v) -> x.winds(v));
            beyond("lost: line, " + each, NO_LINE, (x, v) -> x.lost(v));
            beyond("can: line, " + each, NO_LINE, (x, v) -> x.can(v));
        }
        for (int line = 0; line < 4; line++) {
            int at = line;
            none("says: NONE on " + line, x -> x.says(at));
            none("winds: NONE on " + line, x -> x.winds(at));
            none("lost: NONE on " + line, x -> x.lost(at));
            none("can: NONE on " + line, x -> x.can(at));
        }
        state = Rich.State.ORDINARY;
    }

    private static void sayingsWithAMeaningRefuse() {
        for (Rich.State each : new Rich.State[] {Rich.State.ORDINARY, Rich.State.NO_MEANINGS}) {
            state = each;
            // meaning 4 has no number in either: BEYOND is asked ahead of NONE
            beyond("fewest: line, " + each, NO_LINE, (x, v) -> x.fewest(v, 4));
            beyond("which: line, " + each, NO_LINE, (x, v) -> x.which(v, 4));
            beyond("more: line, " + each, NO_LINE, (x, v) -> x.more(v, 4));
            beyond("orders: line, " + each, NO_LINE, (x, v) -> x.orders(v, 4));
            beyond("fewest: meaning, " + each, NO_MEANING, (x, v) -> x.fewest(0, v));
            beyond("which: meaning, " + each, NO_MEANING, (x, v) -> x.which(0, v));
            beyond("more: meaning, " + each, NO_MEANING, (x, v) -> x.more(0, v));
            beyond("orders: meaning, " + each, NO_MEANING, (x, v) -> x.orders(0, v));
            beyond("best: meaning, " + each, NO_MEANING, (x, v) -> x.best(v));
            none("fewest: NONE, no number, " + each, x -> x.fewest(0, 4));
            none("which: NONE, no number, " + each, x -> x.which(0, 4));
            none("more: NONE, no number, " + each, x -> x.more(0, 4));
            none("orders: NONE, no number, " + each, x -> x.orders(0, 4));
            none("best: NONE, no number, " + each, x -> x.best(4));
        }
        state = Rich.State.ORDINARY;
        // nothing comes near to 9999
        none("fewest: NONE, by none", x -> x.fewest(0, 9));
        none("which: NONE, by none", x -> x.which(0, 9));
        none("more: NONE, by none", x -> x.more(0, 9));
        none("best: NONE, in none", x -> x.best(9));
    }

    // ---- orders, two lines

    private static void ordersRefuse() {
        beyond("most", NO_LINE, (x, v) -> x.most(v));
        beyond("least", NO_LINE, (x, v) -> x.least(v));
        beyond("worths", NO_LINE, (x, v) -> x.worths(v));
        beyond("order: line", NO_LINE, (x, v) -> x.order(v, 0));
        beyond("order: number", NO_WORTH, (x, v) -> x.order(0, v));
        beyond("order: number, on an empty line", NO_WORTH, (x, v) -> x.order(2, v));
    }

    private static void twoLinesRefuse() {
        beyond("join: line", NO_LINE, (x, v) -> x.join(v, 1));
        beyond("join: other", NO_LINE, (x, v) -> x.join(1, v));
        beyond("join: one and the same", new int[] {0, 1, 2, 3, -1, 4}, (x, v) -> x.join(v, v));
        beyond("same: one", NO_LINE, (x, v) -> x.same(v, 1));
        beyond("same: other", NO_LINE, (x, v) -> x.same(1, v));
        beyond("same: both", NO_LINE, (x, v) -> x.same(v, v));
    }

    // ---- the text

    private static void tapeRefuses() {
        int[] noBytes = {0, 5, -1, LEAST, GREATEST};
        beyond("feed", noBytes, (x, v) -> x.feed(0x20202020, v));
        state = Rich.State.FULL_TAPE;
        beyond("feed: BEYOND ahead of FULL", noBytes, (x, v) -> x.feed(0x20202020, v));
        for (int n = 1; n <= 4; n++) {
            int bytes = n;
            refused("feed: FULL by " + n, Due.FULL, x -> x.feed(0x20202020, bytes));
        }
        state = Rich.State.ORDINARY;
    }

    // ---- sheets

    private static void sheetRefuses() {
        int[] noBits = {-1, 1, 7, 9, 15, 17, 32, 63, 65, -8, LEAST, GREATEST};
        for (int n : new int[] {0, 5, 40, 41, -1, LEAST, GREATEST}) {
            beyond("sheet: no such one, n " + n, NO_SHEET, (x, v) -> x.sheet(v, 8, n));
            beyond("sheet: no such one, bits 0, n " + n, NO_SHEET, (x, v) -> x.sheet(v, 0, n));
            beyond("sheet: other bits, n " + n, noBits, (x, v) -> x.sheet(0, v, n));
        }
        for (int bits : new int[] {0, 8, 16, 64}) {
            for (int n : new int[] {-1, -41, LEAST}) {
                refused("sheet: SIZE, bits " + bits + ", n " + n, Due.SIZE, x -> x.sheet(1, bits, n));
                refused("sheet: SIZE of a missing one, bits " + bits, Due.SIZE, x -> x.sheet(3, bits, n));
            }
            beyond("sheet: too many, bits " + bits, new int[] {41, GREATEST}, (x, v) -> x.sheet(1, bits, v));
            beyond("sheet: too many of a missing one, bits " + bits, new int[] {41}, (x, v) -> x.sheet(3, bits, v));
        }
    }

    private static void writeRefuses() {
        for (int i : new int[] {0, -1, 40, LEAST, GREATEST}) {
            beyond("write: no such sheet, number " + i, NO_SHEET, (x, v) -> x.write(v, i, 9));
            refused("write: MISSING, number " + i, Due.MISSING, x -> x.write(3, i, 9));
        }
        int[] lengths = {5, 7, 4};
        for (int s = 0; s < 3; s++) {
            int at = s;
            int[] noNumber = {-1, lengths[s], 39, 40, LEAST, GREATEST};
            beyond("write: no such number of sheet " + s, noNumber, (x, v) -> x.write(at, v, Long.MIN_VALUE));
        }
    }

    private static void copyRefuses() {
        beyond("copy: no such sheet", NO_SHEET, (x, v) -> x.copy(v, 0, 0, 0, 1));
        beyond("copy: no such sheet to", NO_SHEET, (x, v) -> x.copy(0, 0, v, 0, 1));
        beyond("copy: BEYOND ahead of MISSING", NO_SHEET, (x, v) -> x.copy(v, 0, 3, 0, -1));
        beyond("copy: BEYOND to ahead of MISSING", NO_SHEET, (x, v) -> x.copy(3, 0, v, 0, -1));
        for (int n : new int[] {0, 1, 41, -1}) {
            refused("copy: MISSING, n " + n, Due.MISSING, x -> x.copy(3, 0, 0, 0, n));
            refused("copy: MISSING to, n " + n, Due.MISSING, x -> x.copy(0, 0, 3, 0, n));
            refused("copy: MISSING both, n " + n, Due.MISSING, x -> x.copy(3, 0, 3, 0, n));
            refused("copy: KIND 8 and 16, n " + n, Due.KIND, x -> x.copy(0, 0, 1, 0, n));
            refused("copy: KIND 64 and 16, n " + n, Due.KIND, x -> x.copy(2, 0, 1, 0, n));
            refused("copy: KIND 8 and 64, n " + n, Due.KIND, x -> x.copy(0, 0, 2, 0, n));
        }
        refused("copy: KIND ahead of BEYOND from", Due.KIND, x -> x.copy(0, -1, 1, 0, 1));
        refused("copy: KIND ahead of BEYOND to", Due.KIND, x -> x.copy(0, 0, 1, 41, 1));
        beyond("copy: from", new int[] {-1, 4, 5, LEAST, GREATEST}, (x, v) -> x.copy(0, v, 0, 0, 2));
        beyond("copy: to", new int[] {-1, 4, 5, LEAST, GREATEST}, (x, v) -> x.copy(0, 0, 0, v, 2));
        beyond("copy: n", new int[] {-1, 6, 40, LEAST, GREATEST}, (x, v) -> x.copy(0, 0, 0, 0, v));
        beyond("copy: n, not from the first", new int[] {-1, 5, LEAST, GREATEST}, (x, v) -> x.copy(0, 1, 0, 0, v));
        beyond("copy: n, not to the first", new int[] {-1, 5, LEAST, GREATEST}, (x, v) -> x.copy(0, 0, 0, 1, v));
        beyond("copy: none from behind the end", new int[] {6, -1, GREATEST}, (x, v) -> x.copy(0, v, 0, 0, 0));
        beyond("copy: none to behind the end", new int[] {6, -1, GREATEST}, (x, v) -> x.copy(0, 0, 0, v, 0));
    }

    private static void sheetsWithALineRefuse() {
        for (int line : new int[] {0, -1, 4, LEAST, GREATEST}) {
            beyond("lays: no such sheet, line " + line, NO_SHEET, (x, v) -> x.lays(v, line));
            beyond("show: no such sheet, line " + line, NO_SHEET, (x, v) -> x.show(v, line));
            beyond("check: no such sheet, line " + line, NO_SHEET, (x, v) -> x.check(v, line));
            refused("lays: MISSING, line " + line, Due.MISSING, x -> x.lays(3, line));
            refused("show: MISSING, line " + line, Due.MISSING, x -> x.show(3, line));
            refused("check: MISSING, line " + line, Due.MISSING, x -> x.check(3, line));
        }
        beyond("lays: line", NO_LINE, (x, v) -> x.lays(0, v));
        beyond("show: line", NO_LINE, (x, v) -> x.show(0, v));
        beyond("check: line", NO_LINE, (x, v) -> x.check(0, v));
    }

    // ---- images

    private static void imagesRefuse() {
        state = Rich.State.NOTHING_KEPT;
        none("undo: NONE", x -> x.undo());
        state = Rich.State.ORDINARY;
        beyond("count", new int[] {-1, 5, LEAST, GREATEST}, (x, v) -> x.count(v));
        beyond("status", new int[] {-2, 7, LEAST, GREATEST}, (x, v) -> x.status(v));
    }
}
