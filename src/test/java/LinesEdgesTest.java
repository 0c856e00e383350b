/** Promises 1 to 12, each sentence that names a boundary; what is refused stands in RefusedTest. */
public final class LinesEdgesTest {
    public static void main(String[] args) {
        nothingHangsAtFirst();
        noMeaningsAtFirst();
        tapeAndImageAtFirst();
        sheetsAreMissingAtFirst();
        hangAnswersEachPeg();
        hangTakesLeastAndGreatest();
        hangHasRoomAgain();
        hangIsDry();
        offFromEachPeg();
        offTheOnlyOne();
        ofTellsSeenToTheLastWind();
        ofTellsWorthBehindEachPeg();
        setTakesLeastAndGreatest();
        setChangesThatOneAlone();
        turnFromEachKindToEach();
        asOneOfEachKind();
        swapEnds();
        takeAnEmptyOneAndAFullOne();
        likeAnEmptyOneAndAFullOne();
        likeItself();
        likeHangsForItself();
        windFromLeastToGreatest();
        daysDryToZero();
        daysCountAllThatHang();
        daysToTheLastDay();
        Due.end();
    }

    // ---- promise 1

    /** "Nothing hangs": lines are empty at first, WIND and DAY are 0. */
    private static void nothingHangsAtFirst() {
        for (int line = 0; line < 4; line++) {
            LinenSigns x = new LinenSigns();
            Due.is("new: no garment on line " + line, x.of(line, 0, 0), Due.BEYOND);
            Due.is("new: worth of line " + line, x.worth(line), 0);
            Due.is("new: taken from line " + line, x.take(line), 0);
        }
        LinenSigns x = new LinenSigns();
        Due.is("new: garments", x.count(0), 0);
        Due.is("new: wind", x.wind(0), 0);
        Due.is("new: day", x.count(4), 0);
    }

    /** "No MEANINGS": each of ten has none. */
    private static void noMeaningsAtFirst() {
        LinenSigns x = new LinenSigns();
        Due.is("new: meanings", x.count(1), 0);
        Due.is("new: read", x.read(0), Due.NONE);
        for (int meaning = 0; meaning < 10; meaning++) {
            Due.is("new: number of " + meaning, x.number(meaning), Due.NONE);
            Due.is("new: forget " + meaning, x.forget(meaning), 0);
            Due.is("new: means " + meaning, x.means(meaning, 0), -1000);
        }
    }

    /** "THE TAPE is empty, no image is kept." */
    private static void tapeAndImageAtFirst() {
        Due.is("new: bytes", new LinenSigns().count(2), 0);
        Due.is("new: wipe", new LinenSigns().wipe(), 0);
        Due.is("new: town ends too early", new LinenSigns().town(), -1);
        Due.is("new: undo", new LinenSigns().undo(), Due.NONE);
        Due.is("new: tear", new LinenSigns().tear(), 0);
        for (int which = -1; which < 7; which++) {
            Due.is("new: status " + which, new LinenSigns().status(which), 0);
        }
    }

    /** Section 2: sheets are "MISSING (at first)". */
    private static void sheetsAreMissingAtFirst() {
        for (int s = 0; s < 4; s++) {
            Due.is("new: write on sheet " + s, new LinenSigns().write(s, 0, 0), Due.MISSING);
            Due.is("new: lays of sheet " + s, new LinenSigns().lays(s, 0), Due.MISSING);
        }
    }

    // ---- promise 2

    /** "A GARMENT is hung at the end of a LINE: its PEG" (at most 7). "FULL." */
    private static void hangAnswersEachPeg() {
        for (int line = 0; line < 4; line++) {
            LinenSigns x = new LinenSigns();
            for (int peg = 0; peg < 7; peg++) {
                Due.is("hang on line " + line, x.hang(line, peg % 6, 1 + peg), peg);
            }
            Due.is("hang an eighth on line " + line, x.hang(line, 0, 1), Due.FULL);
            Due.row(x, line, "1 12 23 34 45 56 7");
            Due.is("garments then", x.count(0), 7);
            int next = (line + 1) % 4;
            Due.is("hang on the next line", x.hang(next, 0, 1), 0);
        }
    }

    /** LINES 0 to 3, KINDS 0 to 5, SIZE 1 to 9. */
    private static void hangTakesLeastAndGreatest() {
        for (int kind = 0; kind < 6; kind++) {
            for (int size = 1; size <= 9; size++) {
                LinenSigns x = new LinenSigns();
                Due.is("hang " + kind + " of " + size, x.hang(size % 4, kind, size), 0);
                Due.is("its kind", x.of(size % 4, 0, 0), kind);
                Due.is("its size", x.of(size % 4, 0, 1), size);
            }
        }
    }

    private static void hangHasRoomAgain() {
        LinenSigns x = Due.hung(1, 2, 3, 4, 5, 6, 7);
        x.off(0, 0);
        Due.is("hang where one was taken off", x.hang(0, 0, 8), 6);
        Due.row(x, 0, "2 3 4 5 6 7 8");
        Due.is("hang one more", x.hang(0, 0, 9), Due.FULL);
        x.take(0);
        Due.is("hang where all were taken in", x.hang(0, 0, 9), 0);
    }

    /** "(WET 0)", also on a peg on which something wet hung. */
    private static void hangIsDry() {
        LinenSigns x = Due.hung(1, 2);
        x.set(0, 0, 2, 9);
        x.set(0, 1, 2, 9);
        x.off(0, 1);
        x.hang(0, 0, 3);
        Due.is("hung behind a wet one", x.of(0, 1, 2), 0);
        x.take(0);
        x.hang(0, 0, 3);
        Due.is("hung where a wet one was", x.of(0, 0, 2), 0);
    }

    // ---- promise 3

    /** "The GARMENT on a PEG is taken off; those behind close up: its SIZE." */
    private static void offFromEachPeg() {
        for (int peg = 0; peg < 7; peg++) {
            LinenSigns x = Due.hung(1, 12, 23, 34, 45, 56, 7);
            for (int i = 0; i < 7; i++) {
                x.set(0, i, 2, i + 1);
            }
            Due.is("off peg " + peg, x.off(0, peg), peg + 1);
            Due.is("garments without " + peg, x.count(0), 6);
            for (int i = 0; i < 6; i++) {
                int was = i < peg ? i : i + 1;
                Due.is("size closed up", x.of(0, i, 1), was + 1);
                Due.is("kind closed up", x.of(0, i, 0), was % 6);
                Due.is("wet closed up", x.of(0, i, 2), was + 1);
            }
            Due.is("there is no seventh", x.of(0, 6, 0), Due.BEYOND);
            Due.is("off the seventh", x.off(0, 6), Due.BEYOND);
        }
    }

    private static void offTheOnlyOne() {
        LinenSigns x = Due.hung(59);
        Due.is("off the only one", x.off(0, 0), 9);
        Due.is("off again", x.off(0, 0), Due.BEYOND);
        Due.is("worth then", x.worth(0), 0);
        Due.is("hang then", x.hang(0, 0, 1), 0);
    }

    // ---- promise 4

    /** SEEN, for each kind, size and wet, in each wind. */
    private static void ofTellsSeenToTheLastWind() {
        for (int kind = 0; kind < 6; kind++) {
            for (int size = 1; size <= 9; size++) {
                for (int wet = 0; wet <= 9; wet++) {
                    seenInEachWind(kind, size, wet);
                }
            }
        }
    }

    private static void seenInEachWind(int kind, int size, int wet) {
        int sum = size + wet;
        int[] strongest = {sum, 2 * sum, sum + 3, sum, 2 * sum, 20};
        LinenSigns x = new LinenSigns();
        x.hang(0, kind, size);
        x.set(0, 0, 2, wet);
        for (int wind = 0; wind <= 20; wind++) {
            x.wind(wind);
            int due = wind <= strongest[kind] ? 1 : 0;
            Due.is("kind " + kind + " of " + size + ", wet " + wet + ", seen in " + wind, x.of(0, 0, 3), due);
        }
    }

    /** "4 WORTH of its LINE behind it", from the first peg to the last; one that isn't SEEN says nothing. */
    private static void ofTellsWorthBehindEachPeg() {
        LinenSigns x = Due.hung(3, 12, 29, 51, 31, 41, 9);
        int[] calm = {3, 23, 24, 24, 48, 38, 47};
        // in wind 4 the first, the red and the torn one aren't seen
        int[] windy = {0, 20, 21, 23, 23, 23, 32};
        for (int peg = 0; peg < 7; peg++) {
            Due.is("worth behind " + peg, x.of(0, peg, 4), calm[peg]);
        }
        x.wind(4);
        for (int peg = 0; peg < 7; peg++) {
            Due.is("worth behind " + peg + " in wind 4", x.of(0, peg, 4), windy[peg]);
        }
    }

    // ---- promise 5

    /** SIZE 1 to 9, WET 0 to 9: "what it was". */
    private static void setTakesLeastAndGreatest() {
        LinenSigns x = Due.hung(5);
        int was = 5;
        for (int size = 1; size <= 9; size++) {
            Due.is("set size " + size, x.set(0, 0, 1, size), was);
            Due.is("size is " + size, x.of(0, 0, 1), size);
            was = size;
        }
        was = 0;
        for (int wet = 9; wet >= 0; wet--) {
            Due.is("set wet " + wet, x.set(0, 0, 2, wet), was);
            Due.is("wet is " + wet, x.of(0, 0, 2), wet);
            was = wet;
        }
    }

    private static void setChangesThatOneAlone() {
        for (int peg = 0; peg < 7; peg += 6) {
            LinenSigns x = Due.hung(1, 12, 23, 34, 45, 56, 7);
            x.like(1, 0);
            x.set(0, peg, 1, 9);
            x.set(0, peg, 2, 8);
            Due.row(x, 0, peg == 0 ? "9 12 23 34 45 56 7" : "1 12 23 34 45 56 9");
            Due.row(x, 1, "1 12 23 34 45 56 7");
            for (int i = 0; i < 7; i++) {
                Due.is("wet of " + i, x.of(0, i, 2), i == peg ? 8 : 0);
            }
        }
    }

    // ---- promises 6 and 7

    /** "It becomes one of another KIND: what it was"; SIZE and WET stay. */
    private static void turnFromEachKindToEach() {
        for (int kind = 0; kind < 6; kind++) {
            for (int other = 0; other < 6; other++) {
                LinenSigns x = Due.hung(1, 10 * kind + 4, 2);
                x.set(0, 1, 2, 7);
                Due.is("turn " + kind + " to " + other, x.turn(0, 1, other), kind);
                Due.row(x, 0, "1 " + (10 * other + 4) + " 2");
                Due.is("as wet", x.of(0, 1, 2), 7);
            }
        }
    }

    /** "KIND: it isn't of that kind, nor of one under it"; what hangs stays as it is. */
    private static void asOneOfEachKind() {
        int[] above = {0b000001, 0b000011, 0b000101, 0b001001, 0b010011, 0b100101};
        for (int kind = 0; kind < 6; kind++) {
            for (int other = 0; other < 6; other++) {
                LinenSigns x = Due.hung(1, 10 * kind + 9);
                boolean isOne = (above[kind] >> other & 1) != 0;
                Due.is("as: " + kind + " as " + other, x.as(0, 1, other), isOne ? 9 : Due.KIND);
                Due.is("KIND told", x.status(2), isOne ? 0 : 1);
                Due.row(x, 0, "1 " + (10 * kind + 9));
            }
        }
    }

    // ---- promise 8

    /** "by how many PEGS": 0 for one and the same, 6 from end to end, whichever comes first. */
    private static void swapEnds() {
        for (int one = 0; one < 7; one++) {
            for (int other = 0; other < 7; other++) {
                LinenSigns x = Due.hung(1, 12, 23, 34, 45, 56, 7);
                x.set(0, one, 2, 9);
                Due.is("swap " + one + ", " + other, x.swap(0, one, other), Math.abs(one - other));
                for (int peg = 0; peg < 7; peg++) {
                    int from = peg == one ? other : peg == other ? one : peg;
                    Due.is("size on " + peg, x.of(0, peg, 1), from + 1);
                    Due.is("kind on " + peg, x.of(0, peg, 0), from % 6);
                    Due.is("wet on " + peg, x.of(0, peg, 2), peg == other ? 9 : 0);
                }
            }
        }
    }

    // ---- promises 9 and 10

    private static void takeAnEmptyOneAndAFullOne() {
        for (int line = 0; line < 4; line++) {
            LinenSigns x = new LinenSigns();
            for (int each = 0; each < 4; each++) {
                Due.hangAll(x, each, 1, 2, 3, 4, 5, 6, 7);
            }
            Due.is("take a full one", x.take(line), 7);
            Due.is("the other ones hang", x.count(0), 21);
            Due.is("take an empty one", x.take(line), 0);
            Due.is("hang then", x.hang(line, 0, 1), 0);
            Due.is("take one garment", x.take(line), 1);
        }
    }

    private static void likeAnEmptyOneAndAFullOne() {
        for (int line = 0; line < 4; line++) {
            int other = 3 - line;
            LinenSigns x = new LinenSigns();
            Due.is("like: both empty", x.like(line, other), 0);
            Due.hangAll(x, other, 1, 12, 23, 34, 45, 56, 7);
            x.set(other, 6, 2, 9);
            Due.is("like a full one", x.like(line, other), 7);
            Due.row(x, line, "1 12 23 34 45 56 7");
            Due.is("as wet", x.of(line, 6, 2), 9);
            Due.is("full then", x.hang(line, 0, 1), Due.FULL);
            x.take(other);
            x.hang(other, 0, 3);
            Due.is("like one of one garment", x.like(line, other), 1);
            Due.row(x, line, "3");
            x.take(other);
            Due.is("like an empty one", x.like(line, other), 0);
            Due.row(x, line, "");
        }
    }

    private static void likeItself() {
        LinenSigns x = Due.hung(1, 12, 23, 34, 45, 56, 7);
        x.set(0, 3, 2, 4);
        Due.is("like itself", x.like(0, 0), 7);
        Due.row(x, 0, "1 12 23 34 45 56 7");
        Due.is("wet stays", x.of(0, 3, 2), 4);
        Due.is("an empty one like itself", x.like(1, 1), 0);
    }

    /** What is done to one line afterwards isn't done to the other. */
    private static void likeHangsForItself() {
        LinenSigns x = Due.hung(1, 12, 23);
        x.like(2, 0);
        x.set(2, 0, 1, 9);
        x.set(2, 1, 2, 9);
        x.turn(2, 2, 5);
        x.off(0, 0);
        Due.row(x, 0, "12 23");
        Due.row(x, 2, "9 12 53");
        Due.is("wet of the other", x.of(0, 0, 2), 0);
    }

    // ---- promise 11

    /** WIND: 0 to 20: "what it was". */
    private static void windFromLeastToGreatest() {
        LinenSigns x = new LinenSigns();
        int was = 0;
        for (int wind = 20; wind >= 0; wind--) {
            Due.is("wind " + wind, x.wind(wind), was);
            Due.is("it is", x.count(3), wind);
            was = wind;
        }
        Due.is("wind to the same", x.wind(0), 0);
    }

    // ---- promise 12

    /** "WET of each GARMENT is n less (0 at least)": one less than n, n, and one more. */
    private static void daysDryToZero() {
        for (int n = 1; n <= 10; n++) {
            LinenSigns x = new LinenSigns();
            int dry = 0;
            for (int wet = 0; wet <= 9; wet++) {
                x.hang(wet % 4, wet % 6, 1);
                x.set(wet % 4, wet / 4, 2, wet);
                dry += wet <= n ? 1 : 0;
            }
            Due.is(n + " days", x.days(n), dry);
            for (int wet = 0; wet <= 9; wet++) {
                Due.is("wet " + wet + " then", x.of(wet % 4, wet / 4, 2), Math.max(0, wet - n));
            }
            Due.is("day then", x.count(4), n);
        }
    }

    private static void daysCountAllThatHang() {
        LinenSigns x = new LinenSigns();
        Due.is("days, nothing hangs", x.days(1), 0);
        Due.is("99 days, nothing hangs", x.days(99), 0);
        for (int line = 0; line < 4; line++) {
            Due.hangAll(x, line, 1, 12, 23, 34, 45, 56, 7);
            x.set(line, 6, 2, 9);
        }
        Due.is("8 days: the last ones are wet still", x.days(8), 24);
        Due.is("one day more: all are dry", x.days(1), 28);
        Due.is("day", x.count(4), 109);
    }

    /** "STATE: DAY would be above 9999": 9999 it may be. */
    private static void daysToTheLastDay() {
        LinenSigns x = new LinenSigns();
        for (int i = 0; i < 100; i++) {
            x.days(99);
        }
        Due.is("day", x.count(4), 9900);
        Due.is("98 days", x.days(98), 0);
        Due.is("2 days from 9998", x.days(2), Due.STATE);
        Due.is("day stays", x.count(4), 9998);
        Due.is("1 day to 9999", x.days(1), 0);
        Due.is("day last", x.count(4), 9999);
        Due.is("1 day above", x.days(1), Due.STATE);
        Due.is("99 days above", x.days(99), Due.STATE);
        Due.is("100 days above", x.days(100), Due.BEYOND);
        Due.is("day last still", x.count(4), 9999);
        Due.is("STATE told", x.status(4), 3);
        LinenSigns y = new LinenSigns();
        for (int i = 0; i < 100; i++) {
            y.days(99);
        }
        Due.is("99 days to 9999", y.days(99), 0);
        Due.is("day last at once", y.count(4), 9999);
    }
}
