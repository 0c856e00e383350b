/** Promises 32 to 34: two lines. */
public final class TwoLinesTest {
    public static void main(String[] args) {
        join();
        same();
        best();
        Due.end();
    }

    private static void join() {
        LinenSigns x = Due.hung(41, 31, 5, 31, 42);
        Due.hangAll(x, 1, 8);
        // 8: from 0 on -2 -4 1 2 -18; 1: 16 21 42 22; 2: 13 26 6; 3: 16 -4; 4: -12; 5: 8
        Due.is("join", x.join(0, 1), 1);
        Due.hangAll(x, 2, 45);
        // -50: 0: -60 .. ; 1: -100 -95 -190 -210; 2: -45 -90 -110; 3: -100 -120; 4: -70; 5: -50
        Due.is("join: none of it", x.join(0, 2), 5);
        // 0: -50; 1: -10; 2: -10; 3 and 4: -20; 5: 0
        Due.is("join: behind an empty one", x.join(0, 3), 5);
        Due.is("join: an empty one", x.join(3, 0), 0);
        Due.is("join: nothing is changed", x.count(0), 7);
        x.take(0);
        Due.hangAll(x, 0, 31, 31, 31);
        x.take(1);
        Due.is("join: of several the least", x.join(0, 1), 0);
        Due.hangAll(x, 1, 21, 21);
        x.take(0);
        Due.hangAll(x, 0, 21, 47, 21);
        // stockings go on over the seam, but 3 + 3 - 70 + 1 < 3 + 3
        Due.is("join: stockings over the seam", x.join(0, 1), 2);
        x.wind(20);
        Due.is("join: in this wind", x.join(0, 1), 0);
        Due.is("join: one and the same", x.join(2, 2), Due.BEYOND);
        Due.is("join: line", x.join(4, 0), Due.BEYOND);
        Due.is("join: other", x.join(0, 4), Due.BEYOND);
        Due.is("join: below", x.join(-1, -1), Due.BEYOND);
    }

    private static void same() {
        LinenSigns x = Due.hung(1, 12, 23, 34, 45);
        Due.hangAll(x, 1, 1, 13, 23, 44, 45, 56);
        Due.is("same", x.same(0, 1), 3);
        Due.is("same: the other way round", x.same(1, 0), 3);
        x.set(0, 0, 2, 5);
        Due.is("same: wet doesn't matter", x.same(0, 1), 3);
        Due.is("same: itself", x.same(1, 1), 6);
        Due.is("same: an empty one", x.same(1, 2), 0);
        x.off(1, 5);
        x.off(1, 4);
        Due.is("same: one that hung there is gone", x.same(0, 1), 2);
        Due.is("same: one", x.same(4, 0), Due.BEYOND);
        Due.is("same: other", x.same(0, -1), Due.BEYOND);
    }

    private static void best() {
        LinenSigns x = new LinenSigns();
        Due.is("best: BEYOND", x.best(10), Due.BEYOND);
        Due.is("best: BEYOND below", x.best(-1), Due.BEYOND);
        Due.is("best: no number", x.best(0), Due.NONE);
        Due.means(x, 0, 5, 40, 700);
        Due.hangAll(x, 0, 5);
        Due.hangAll(x, 1, 51, 1, 4);
        Due.hangAll(x, 3, 6);
        // 5 is seen in 0 to 5, 1 and 4 in 0 and 1 (then 4 alone is nearer to 5, to 4), 6 in 0 to 6
        Due.is("best", x.best(1), 3);
        Due.is("best: nothing said", x.best(0), 2);
        Due.is("best: in none", x.best(2), Due.NONE);
        Due.is("best: too far", x.best(3), Due.NONE);
        x.off(3, 0);
        Due.is("best: then", x.best(1), 0);
        Due.is("best: of several the least", x.best(0), 2);
        x.wind(20);
        Due.is("best: this wind doesn't matter", x.best(1), 0);
        Due.is("best: it stays", x.count(3), 20);
        x.take(0);
        Due.hangAll(x, 0, 14);
        x.set(0, 0, 2, 6);
        Due.is("best: a sheet that is wet, in all winds", x.best(2), 0);
        x.like(2, 0);
        x.take(0);
        Due.is("best: another line", x.best(2), 2);
        x = new LinenSigns();
        Due.hangAll(x, 1, 11, 1);
        // 11 in winds 0 and 1, 10 in wind 2
        Due.means(x, 0, 11, 10);
        Due.is("best: in one wind", x.best(2), 1);
    }
}
