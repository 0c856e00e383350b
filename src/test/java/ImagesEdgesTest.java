import java.util.List;

/** Promises 44 to 48, each sentence that names a boundary; what is refused stands in RefusedTest. */
public final class ImagesEdgesTest {
    public static void main(String[] args) {
        imageOfNothing();
        imageOfAllThatHangs();
        imageKeepsAllOfSectionOne();
        imageIsItsOwn();
        imageKeepsNeitherTapeNorSheets();
        undoWhatWasKeptLatest();
        undoStays();
        undoChangesNeitherTapeNorSheetsNorStatus();
        undoNothingKept();
        tearOnce();
        tearLeavesTheTown();
        countFromNoneToAll();
        countAsksForNothingElse();
        statusOfEachFinding();
        statusOfAnother();
        statusStaysByUndo();
        statusCountsNoFaults();
        Due.end();
    }

    // ---- promises 44 and 45

    /** "how many GARMENTS": none, and 28. */
    private static void imageOfNothing() {
        LinenSigns x = new LinenSigns();
        Due.is("image of nothing", x.image(), 1);
        Due.hangAll(x, 0, 1, 2);
        x.wind(9);
        x.means(0, 0);
        x.days(1);
        Due.is("undo to nothing", x.undo(), 0);
        for (int what = 0; what < 5; what++) {
            Due.is("count " + what, x.count(what), 0);
        }
        Due.is("meaning 0", x.number(0), Due.NONE);
    }

    private static void imageOfAllThatHangs() {
        LinenSigns x = new LinenSigns();
        for (int line = 0; line < 4; line++) {
            Due.hangAll(x, line, 1, 12, 23, 34, 45, 56, 7);
        }
        x.image();
        for (int line = 0; line < 4; line++) {
            x.take(line);
        }
        Due.is("undo to all", x.undo(), 28);
        for (int line = 0; line < 4; line++) {
            Due.row(x, line, "1 12 23 34 45 56 7");
        }
    }

    /** "All that section 1 tells": each part of it, the least and the greatest. */
    private static void imageKeepsAllOfSectionOne() {
        LinenSigns x = Rich.town(Rich.State.LAST_DAYS);
        x.means(7, -999);
        List<Long> was = Rich.lookAtTown(x);
        x.image();
        x.off(0, 6);
        x.set(0, 0, 1, 1);
        x.set(0, 1, 2, 0);
        x.turn(0, 2, 5);
        x.swap(0, 3, 4);
        x.like(1, 0);
        x.hang(2, 5, 9);
        x.take(3);
        x.wind(20);
        x.days(2);
        x.means(0, 9999);
        x.means(1, 1);
        x.forget(9);
        Due.is("undo", x.undo(), 11);
        Due.holds("all is back", Rich.lookAtTown(x).equals(was));
    }

    /** What is done afterwards isn't done to what is kept, nor what is done to what came back. */
    private static void imageIsItsOwn() {
        LinenSigns x = Due.hung(1, 2, 3);
        x.image();
        for (int i = 0; i < 3; i++) {
            x.set(0, 0, 1, 9);
            x.set(0, 1, 2, 9);
            x.off(0, 2);
            x.means(4, 4);
            Due.is("undo", x.undo(), 3);
            Due.row(x, 0, "1 2 3");
            Due.is("wet", x.of(0, 1, 2), 0);
            Due.is("meaning", x.number(4), Due.NONE);
        }
    }

    /** "(THE TAPE not)"; sheets are told in section 2. */
    private static void imageKeepsNeitherTapeNorSheets() {
        LinenSigns x = new LinenSigns();
        Rich.feed(x, "wind 1");
        x.sheet(0, 8, 1);
        x.write(0, 0, 5);
        x.sheet(1, 8, 1);
        x.image();
        x.feed('2', 1);
        x.write(0, 0, 6);
        x.sheet(1, 0, 0);
        x.sheet(2, 64, 2);
        x.undo();
        Due.is("bytes", x.count(2), 7);
        Due.is("number", x.write(0, 0, 0), 6);
        Due.is("missing", x.write(1, 0, 0), Due.MISSING);
        Due.is("not missing", x.write(2, 1, 0), 0);
        Due.is("text", x.town(), 1);
        Due.is("wind", x.count(3), 12);
        x.undo();
        Due.is("the tape stays empty", x.count(2), 0);
    }

    private static void undoWhatWasKeptLatest() {
        LinenSigns x = new LinenSigns();
        for (int n = 1; n <= 7; n++) {
            x.hang(0, 0, n);
            Due.is("image " + n, x.image(), 1);
        }
        x.take(0);
        Due.is("undo: the latest", x.undo(), 7);
        x.take(0);
        Due.is("undo: the latest again", x.undo(), 7);
        x.take(0);
        x.image();
        Due.is("undo: the very latest", x.undo(), 0);
    }

    private static void undoStays() {
        LinenSigns x = Due.hung(5);
        x.image();
        for (int i = 0; i < 5; i++) {
            Due.is("undo again", x.undo(), 1);
            Due.is("garments", x.count(0), 1);
        }
        Due.is("it is kept still", x.tear(), 1);
    }

    private static void undoChangesNeitherTapeNorSheetsNorStatus() {
        LinenSigns x = Due.hung(5);
        x.image();
        x.wind(-1);
        x.wind(21);
        x.number(0);
        Due.is("undo", x.undo(), 1);
        Due.is("all findings", x.status(-1), 3);
        Due.is("BEYOND", x.status(0), 2);
        Due.is("NONE", x.status(3), 1);
    }

    private static void undoNothingKept() {
        LinenSigns x = Due.hung(5);
        Due.is("undo", x.undo(), Due.NONE);
        Due.row(x, 0, "5");
        x.image();
        x.tear();
        x.hang(0, 0, 6);
        Due.is("undo what was torn", x.undo(), Due.NONE);
        Due.row(x, 0, "5 6");
        x.image();
        x.take(0);
        Due.is("undo what was kept then", x.undo(), 2);
    }

    // ---- promise 46

    /** "1 if something was, else 0": all that was kept is torn at once. */
    private static void tearOnce() {
        LinenSigns x = new LinenSigns();
        Due.is("tear: nothing was", x.tear(), 0);
        x.image();
        x.image();
        x.image();
        Due.is("tear", x.tear(), 1);
        Due.is("tear again", x.tear(), 0);
        Due.is("undo", x.undo(), Due.NONE);
        Due.is("tearing is never refused", x.status(-1), 1);
    }

    private static void tearLeavesTheTown() {
        LinenSigns x = Rich.town(Rich.State.ORDINARY);
        List<Long> was = Rich.lookAtTown(Rich.town(Rich.State.ORDINARY));
        Due.is("tear", x.tear(), 1);
        Due.holds("the town stays", Rich.lookAtTown(x).equals(was));
    }

    // ---- promise 47

    private static void countFromNoneToAll() {
        LinenSigns x = new LinenSigns();
        for (int n = 0; n < 28; n++) {
            Due.is("garments", x.count(0), n);
            x.hang(n % 4, n % 6, 1);
        }
        Due.is("28 garments", x.count(0), 28);
        for (int n = 0; n < 10; n++) {
            Due.is("meanings", x.count(1), n);
            x.means(9 - n, 0);
        }
        Due.is("ten meanings", x.count(1), 10);
        for (int n = 0; n < 30; n++) {
            Due.is("bytes", x.count(2), 4 * n);
            x.feed(0, 4);
        }
        Due.is("120 bytes", x.count(2), 120);
        x.wind(20);
        Due.is("wind 20", x.count(3), 20);
        for (int n = 0; n < 101; n++) {
            Due.is("day", x.count(4), 99 * n);
            x.days(99);
        }
        Due.is("day 9999", x.count(4), 9999);
    }

    private static void countAsksForNothingElse() {
        LinenSigns x = new LinenSigns();
        Due.is("count -1", x.count(-1), Due.BEYOND);
        Due.is("count 5", x.count(5), Due.BEYOND);
        Due.is("BEYOND told", x.status(0), 2);
    }

    // ---- promise 48

    /** "which -1: all, 0 to 6: BEYOND to SIZE": each of seven alone. */
    private static void statusOfEachFinding() {
        for (int each = 0; each < 7; each++) {
            LinenSigns x = new LinenSigns();
            Due.hangAll(x, 0, 1, 1, 1, 1, 1, 1, 1);
            if (each == 4) {
                for (int i = 0; i < 101; i++) {
                    x.days(99);
                }
            }
            for (int times = 1; times <= 3; times++) {
                Due.is("finding " + each, refuse(x, each), -1000000001 - each);
                for (int which = 0; which < 7; which++) {
                    Due.is("status " + which, x.status(which), which == each ? times : 0);
                }
                Due.is("status of all", x.status(-1), times);
            }
        }
    }

    private static long refuse(LinenSigns x, int finding) {
        switch (finding) {
            case 0:
                return x.worth(4);
            case 1:
                return x.hang(0, 0, 1);
            case 2:
                return x.as(0, 0, 1);
            case 3:
                return x.apart();
            case 4:
                return x.days(1);
            case 5:
                return x.write(0, 0, 0);
            default:
                return x.sheet(0, 8, -1);
        }
    }

    /** "BEYOND (counted from then on): another one." */
    private static void statusOfAnother() {
        int all = 0;
        LinenSigns x = new LinenSigns();
        for (int which : new int[] {-2, 7, Integer.MIN_VALUE, Integer.MAX_VALUE}) {
            Due.is("status " + which, x.status(which), Due.BEYOND);
            all++;
            Due.is("BEYOND then", x.status(0), all);
            Due.is("all then", x.status(-1), all);
        }
        Due.is("asking in vain is all that was told", x.status(6), 0);
    }

    /** "ever (undo() takes none back)", nor do tear(), wipe() and town(). */
    private static void statusStaysByUndo() {
        LinenSigns x = new LinenSigns();
        x.image();
        for (int n = 1; n <= 5; n++) {
            x.wind(21);
            x.undo();
            x.wipe();
            x.town();
            Due.is("status", x.status(0), n);
        }
        x.tear();
        Due.is("status of all", x.status(-1), 5);
    }

    private static void statusCountsNoFaults() {
        LinenSigns x = new LinenSigns();
        Due.is("a fault", x.town(), -1);
        Due.is("a fault behind 120 bytes", Rich.tell(x, " ".repeat(120)), -121);
        Due.is("findings", x.status(-1), 0);
        Due.is("what means answers isn't one", x.means(0, 0), -1000);
        Due.is("findings then", x.status(-1), 0);
        x.sheet(0, 64, 1);
        x.write(0, 0, Due.BEYOND);
        Due.is("a number like a finding isn't one", x.write(0, 0, 0), Due.BEYOND);
        Due.is("findings still", x.status(-1), 0);
    }
}
