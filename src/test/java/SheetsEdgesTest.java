/** Promises 38 to 43, each sentence that names a boundary; what is refused stands in RefusedTest. */
public final class SheetsEdgesTest {
    private static final int[] BITS = {8, 16, 64};

    public static void main(String[] args) {
        sheetOfNoneToForty();
        sheetIsAllZero();
        sheetGoesMissing();
        sheetsStandForThemselves();
        writeTheLowestBits();
        writeTheFirstAndTheLast();
        copyNoneAndAll();
        copyToTheLastNumber();
        copyAsTheyAllWere();
        copyOfEachBits();
        laysEachNumber();
        laysNumbersOf16And64Bits();
        laysToTheFirstThatIsNone();
        laysToTheSeventh();
        laysWhatHungThereIsGone();
        laysOfNoNumbers();
        showAsFarAsItHasNumbers();
        showTheLowestBits();
        showLeavesTheTown();
        checkAsManyAsGarments();
        checkTheFirstThatIsNot();
        checkWhichOneLacks();
        checkOfNone();
        checkInThisWind();
        checkWhatBitsHold();
        Due.end();
    }

    private static void numbers(LinenSigns x, int s, long... due) {
        for (int i = 0; i < due.length; i++) {
            long was = x.write(s, i, 0);
            Due.is("number " + i + " of sheet " + s, was, due[i]);
            x.write(s, i, was);
        }
        Due.is("no more numbers on sheet " + s, x.write(s, due.length, 0), Due.BEYOND);
    }

    private static void fill(LinenSigns x, int s, int bits, long... numbers) {
        x.sheet(s, bits, numbers.length);
        for (int i = 0; i < numbers.length; i++) {
            x.write(s, i, numbers[i]);
        }
    }

    // ---- promise 38

    /** "n numbers" (at most 40), "of 8, 16 or 64 bits", on SHEETS 0 to 3. */
    private static void sheetOfNoneToForty() {
        for (int s = 0; s < 4; s++) {
            for (int bits : BITS) {
                for (int n : new int[] {0, 1, 39, 40}) {
                    LinenSigns x = new LinenSigns();
                    Due.is("sheet " + s + " of " + n, x.sheet(s, bits, n), n);
                    Due.is("its first", x.write(s, 0, 1), n == 0 ? Due.BEYOND : 0);
                    Due.is("behind its last", x.write(s, n, 1), Due.BEYOND);
                    if (n > 0) {
                        Due.is("its last", x.write(s, n - 1, 1), n == 1 ? 1 : 0);
                    }
                }
                LinenSigns x = new LinenSigns();
                Due.is("sheet of 41", x.sheet(s, bits, 41), Due.BEYOND);
                Due.is("sheet of -1", x.sheet(s, bits, -1), Due.SIZE);
                Due.is("missing still", x.write(s, 0, 0), Due.MISSING);
            }
        }
    }

    /** "all 0", also where numbers stood, with as many, fewer and more of them. */
    private static void sheetIsAllZero() {
        for (int n : new int[] {1, 39, 40}) {
            LinenSigns x = new LinenSigns();
            x.sheet(0, 64, 40);
            for (int i = 0; i < 40; i++) {
                x.write(0, i, -1);
            }
            x.sheet(0, 8, n);
            x.sheet(0, 16, 40);
            for (int i = 0; i < 40; i++) {
                Due.is("0 again", x.write(0, i, 0), 0);
            }
        }
        LinenSigns x = new LinenSigns();
        fill(x, 0, 64, 1, 2, 3);
        x.sheet(0, 64, 3);
        numbers(x, 0, 0, 0, 0);
        fill(x, 0, 64, 1, 2, 3);
        x.sheet(0, 0, 0);
        x.sheet(0, 64, 3);
        numbers(x, 0, 0, 0, 0);
    }

    /** "bits 0: it is MISSING: n (0 if it is MISSING)". "SIZE: n is below 0 (also with bits 0)." */
    private static void sheetGoesMissing() {
        for (int n : new int[] {0, 1, 40}) {
            LinenSigns x = new LinenSigns();
            Due.is("sheet missing from the first, n " + n, x.sheet(2, 0, n), 0);
            x.sheet(2, 8, 5);
            Due.is("sheet missing, n " + n, x.sheet(2, 0, n), 0);
            Due.is("it is", x.write(2, 0, 0), Due.MISSING);
            Due.is("no finding but that", x.status(-1), 1);
        }
        LinenSigns x = new LinenSigns();
        x.sheet(2, 8, 5);
        Due.is("bits 0, n -1", x.sheet(2, 0, -1), Due.SIZE);
        Due.is("bits 0, n 41", x.sheet(2, 0, 41), Due.BEYOND);
        Due.is("it isn't missing", x.write(2, 4, 0), 0);
    }

    private static void sheetsStandForThemselves() {
        LinenSigns x = new LinenSigns();
        for (int s = 0; s < 4; s++) {
            fill(x, s, 64, 10 + s, 20 + s);
        }
        for (int s = 0; s < 4; s++) {
            numbers(x, s, 10 + s, 20 + s);
        }
        x.sheet(1, 0, 0);
        numbers(x, 0, 10, 20);
        numbers(x, 2, 12, 22);
        numbers(x, 3, 13, 23);
    }

    // ---- promise 39

    private static void written(int bits, long v, long due) {
        LinenSigns x = new LinenSigns();
        x.sheet(3, bits, 2);
        Due.is("it was 0", x.write(3, 1, v), 0);
        Due.is(bits + " bits of " + v, x.write(3, 1, 0), due);
        Due.is("the other one stays", x.write(3, 0, v), 0);
        Due.is(bits + " bits of " + v + " again", x.write(3, 0, v), due);
    }

    /** "(its lowest bits)": the ends of 8, 16 and 64 bits, and one beyond. */
    private static void writeTheLowestBits() {
        written(8, 127, 127);
        written(8, 128, -128);
        written(8, -128, -128);
        written(8, -129, 127);
        written(8, 255, -1);
        written(8, 256, 0);
        written(8, Long.MAX_VALUE, -1);
        written(8, Long.MIN_VALUE, 0);
        written(16, 32767, 32767);
        written(16, 32768, -32768);
        written(16, -32768, -32768);
        written(16, -32769, 32767);
        written(16, 65535, -1);
        written(16, 65536, 0);
        written(16, 128, 128);
        written(16, Long.MAX_VALUE, -1);
        written(16, Long.MIN_VALUE, 0);
        written(64, Long.MAX_VALUE, Long.MAX_VALUE);
        written(64, Long.MIN_VALUE, Long.MIN_VALUE);
        written(64, 1L << 32, 1L << 32);
        written(64, 65536, 65536);
        written(64, -1000000001L, -1000000001L);
    }

    private static void writeTheFirstAndTheLast() {
        for (int bits : BITS) {
            LinenSigns x = new LinenSigns();
            x.sheet(0, bits, 40);
            for (int i = 0; i < 40; i++) {
                Due.is("write " + i, x.write(0, i, i + 1), 0);
            }
            for (int i = 0; i < 40; i++) {
                Due.is("written " + i, x.write(0, i, 0), i + 1);
            }
            Due.is("write 40", x.write(0, 40, 1), Due.BEYOND);
            Due.is("write -1", x.write(0, -1, 1), Due.BEYOND);
        }
    }

    // ---- promise 40

    private static void copyNoneAndAll() {
        for (int bits : BITS) {
            LinenSigns x = new LinenSigns();
            x.sheet(0, bits, 40);
            x.sheet(1, bits, 40);
            for (int i = 0; i < 40; i++) {
                x.write(0, i, i + 1);
            }
            Due.is("copy none", x.copy(0, 0, 1, 0, 0), 0);
            Due.is("it stays", x.write(1, 0, 0), 0);
            Due.is("copy all", x.copy(0, 0, 1, 0, 40), 40);
            for (int i = 0; i < 40; i++) {
                Due.is("copied " + i, x.write(1, i, 0), i + 1);
                Due.is("from " + i, x.write(0, i, 0), i + 1);
            }
            Due.is("copy one more", x.copy(0, 0, 1, 0, 41), Due.BEYOND);
            x.sheet(2, bits, 0);
            x.sheet(3, bits, 0);
            Due.is("copy none of none", x.copy(2, 0, 3, 0, 0), 0);
            Due.is("copy one of none", x.copy(2, 0, 0, 0, 1), Due.BEYOND);
            Due.is("copy one to none", x.copy(0, 0, 2, 0, 1), Due.BEYOND);
            Due.is("copy none from the end", x.copy(0, 40, 1, 0, 0), 0);
            Due.is("copy none to the end", x.copy(0, 0, 1, 40, 0), 0);
        }
    }

    /** "BEYOND: one has not so many": the last may come and be written, the one behind it not. */
    private static void copyToTheLastNumber() {
        for (int n = 1; n <= 5; n++) {
            LinenSigns x = new LinenSigns();
            fill(x, 0, 16, 1, 2, 3, 4, 5);
            x.sheet(1, 16, 5);
            Due.is("copy the last " + n, x.copy(0, 5 - n, 1, 5 - n, n), n);
            Due.is("the last", x.write(1, 4, 0), 5);
            Due.is("copy one too far from", x.copy(0, 6 - n, 1, 0, n), Due.BEYOND);
            Due.is("copy one too far to", x.copy(0, 0, 1, 6 - n, n), Due.BEYOND);
        }
        LinenSigns x = new LinenSigns();
        fill(x, 0, 16, 1, 2, 3, 4, 5);
        x.sheet(1, 16, 2);
        Due.is("more than the other has", x.copy(0, 0, 1, 0, 3), Due.BEYOND);
        Due.is("more than this one has", x.copy(1, 0, 0, 0, 3), Due.BEYOND);
        Due.is("as many as the other has", x.copy(0, 3, 1, 0, 2), 2);
        numbers(x, 1, 4, 5);
        numbers(x, 0, 1, 2, 3, 4, 5);
    }

    /** "(as they all were)": on one and the same sheet, by one place forth and back. */
    private static void copyAsTheyAllWere() {
        for (int bits : BITS) {
            LinenSigns x = new LinenSigns();
            fill(x, 0, bits, 1, 2, 3, 4, 5);
            Due.is("one place on", x.copy(0, 0, 0, 1, 4), 4);
            numbers(x, 0, 1, 1, 2, 3, 4);
            Due.is("one place back", x.copy(0, 1, 0, 0, 4), 4);
            numbers(x, 0, 1, 2, 3, 4, 4);
            Due.is("to where it is", x.copy(0, 0, 0, 0, 5), 5);
            numbers(x, 0, 1, 2, 3, 4, 4);
            Due.is("the first to the last", x.copy(0, 0, 0, 4, 1), 1);
            numbers(x, 0, 1, 2, 3, 4, 1);
        }
    }

    /** "KIND: they are not of as many bits." */
    private static void copyOfEachBits() {
        for (int from : BITS) {
            for (int to : BITS) {
                LinenSigns x = new LinenSigns();
                fill(x, 0, from, -1, 5);
                x.sheet(1, to, 2);
                Due.is("copy " + from + " to " + to, x.copy(0, 0, 1, 0, 2), from == to ? 2 : Due.KIND);
                numbers(x, 1, from == to ? -1 : 0, from == to ? 5 : 0);
                Due.is("copy none", x.copy(0, 0, 1, 0, 0), from == to ? 0 : Due.KIND);
            }
        }
    }

    // ---- promise 41

    /** "10 times a KIND, and a SIZE": all numbers of 8 bits. */
    private static void laysEachNumber() {
        LinenSigns x = null;
        for (int code = -128; code <= 127; code++) {
            if (code % 64 == 0) {
                x = new LinenSigns();
                x.sheet(0, 8, 1);
            }
            x.write(0, 0, code);
            boolean isOne = code >= 1 && code <= 59 && code % 10 != 0;
            Due.is("lays " + code, x.lays(0, 3), isOne ? 1 : 0);
            Due.is("its kind", x.of(3, 0, 0), isOne ? code / 10 : Due.BEYOND);
            Due.is("its size", x.of(3, 0, 1), isOne ? code % 10 : Due.BEYOND);
        }
    }

    private static void laysNumbersOf16And64Bits() {
        long[] none = {0, 10, 60, 61, 257, -1, 32767, -32768, 65, 99, 101, 591};
        long[] noneOf64 = {65537, 1L << 32 | 1, (1L << 32) + 11, 1L << 63 | 1, Long.MAX_VALUE, Long.MIN_VALUE};
        LinenSigns x = new LinenSigns();
        x.sheet(0, 16, 1);
        x.sheet(1, 64, 1);
        for (long code : none) {
            x.write(0, 0, code);
            Due.is("lays 16 bits of " + code, x.lays(0, 0), 0);
            x.write(1, 0, code);
            Due.is("lays 64 bits of " + code, x.lays(1, 0), 0);
        }
        for (long code : noneOf64) {
            x.write(1, 0, code);
            Due.is("lays 64 bits of " + code, x.lays(1, 0), 0);
        }
        x.write(0, 0, 59);
        Due.is("lays 16 bits of 59", x.lays(0, 0), 1);
        x.write(1, 0, 59);
        Due.is("lays 64 bits of 59", x.lays(1, 0), 1);
    }

    /** "up to the first that is none". */
    private static void laysToTheFirstThatIsNone() {
        for (int n = 0; n <= 7; n++) {
            LinenSigns x = new LinenSigns();
            fill(x, 0, 64, 1, 12, 23, 34, 45, 56, 7, 8);
            x.write(0, n, 60);
            Due.is("lays " + n, x.lays(0, 2), n);
            Due.is("they hang", x.count(0), n);
        }
        LinenSigns x = new LinenSigns();
        for (int n = 0; n <= 6; n++) {
            x.sheet(0, 8, n);
            for (int i = 0; i < n; i++) {
                x.write(0, i, 35);
            }
            Due.is("lays all of " + n, x.lays(0, 1), n);
        }
        Due.is("no finding", x.status(-1), 0);
    }

    /** "or the 7th". */
    private static void laysToTheSeventh() {
        for (int n : new int[] {7, 8, 40}) {
            LinenSigns x = new LinenSigns();
            x.sheet(0, 16, n);
            for (int i = 0; i < n; i++) {
                x.write(0, i, 1 + i % 9);
            }
            Due.is("lays seven of " + n, x.lays(0, 0), 7);
            Due.row(x, 0, "1 2 3 4 5 6 7");
            Due.is("no finding", x.status(-1), 0);
        }
    }

    /** "(what hung there is gone)"; what is laid is dry, other lines stay. */
    private static void laysWhatHungThereIsGone() {
        LinenSigns x = Due.hung(1, 2, 3, 4, 5, 6, 7);
        x.like(1, 0);
        x.set(0, 0, 2, 9);
        fill(x, 0, 8, 59);
        Due.is("lays one for seven", x.lays(0, 0), 1);
        Due.row(x, 0, "59");
        Due.is("dry", x.of(0, 0, 2), 0);
        Due.row(x, 1, "1 2 3 4 5 6 7");
        x.write(0, 0, 0);
        Due.is("lays none for one", x.lays(0, 0), 0);
        Due.row(x, 0, "");
        numbers(x, 0, 0);
    }

    private static void laysOfNoNumbers() {
        LinenSigns x = Due.hung(1, 2, 3);
        x.sheet(0, 64, 0);
        Due.is("lays of no numbers", x.lays(0, 0), 0);
        Due.row(x, 0, "");
    }

    // ---- promise 42

    /** "WINDS 0, 1, .. (to 20) .., as far as it has numbers: how many". */
    private static void showAsFarAsItHasNumbers() {
        for (int n : new int[] {0, 1, 20, 21, 22, 40}) {
            LinenSigns x = Due.hung(9, 18, 27, 51);
            x.sheet(2, 64, n);
            for (int i = 0; i < n; i++) {
                x.write(2, i, 777);
            }
            int shown = Math.min(n, 21);
            Due.is("show on " + n, x.show(2, 0), shown);
            for (int i = 0; i < n; i++) {
                Due.is("number " + i, x.write(2, i, 0), i < shown ? x.worthIn(0, i) : 777);
            }
        }
        LinenSigns x = Due.hung(9);
        x.set(0, 0, 2, 9);
        x.sheet(0, 16, 21);
        x.show(0, 0);
        for (int wind = 0; wind <= 20; wind++) {
            Due.is("shown in " + wind, x.write(0, wind, 0), wind <= 18 ? 9 : 0);
        }
        x.show(0, 0);
        Due.is("an empty line", x.show(0, 1), 21);
        Due.is("0 is shown", x.write(0, 0, 5), 0);
    }

    private static void showTheLowestBits() {
        LinenSigns x = Due.hung(19, 31, 31, 31, 31, 31, 31);
        long[] due = {(byte) 5760, (short) 5760, 5760};
        for (int i = 0; i < 3; i++) {
            x.sheet(i, BITS[i], 1);
            Due.is("show one", x.show(i, 0), 1);
            numbers(x, i, due[i]);
        }
        x.turn(0, 0, 4);
        long[] below = {(byte) -5760, (short) -5760, -5760};
        for (int i = 0; i < 3; i++) {
            x.show(i, 0);
            numbers(x, i, below[i]);
        }
        x = Due.hung(19, 8, 39);
        x.sheet(0, 8, 1);
        x.show(0, 0);
        numbers(x, 0, 196 - 256);
        x = Due.hung(19, 19, 19);
        x.sheet(0, 8, 1);
        x.show(0, 0);
        numbers(x, 0, 270 - 256);
    }

    private static void showLeavesTheTown() {
        LinenSigns x = Rich.town(Rich.State.ORDINARY);
        LinenSigns y = Rich.town(Rich.State.ORDINARY);
        Due.is("show", x.show(1, 0), 7);
        Due.holds("the town stays", Rich.lookAtTown(x).equals(Rich.lookAtTown(y)));
    }

    // ---- promise 43

    /** "0 if all are (and there are as many)": for none to seven garments. */
    private static void checkAsManyAsGarments() {
        for (int bits : BITS) {
            for (int n = 0; n <= 7; n++) {
                LinenSigns x = new LinenSigns();
                x.sheet(0, bits, n);
                for (int i = 0; i < n; i++) {
                    x.hang(3, 1, 1);
                    x.write(0, i, 10 * (i + 1));
                }
                Due.is("check " + n, x.check(0, 3), 0);
                x.sheet(1, bits, n + 1);
                x.copy(0, 0, 1, 0, n);
                Due.is("check: a number more than " + n, x.check(1, 3), n + 1);
                x.write(1, n, 10 * n);
                Due.is("check: the last worth once more", x.check(1, 3), n + 1);
            }
        }
    }

    /** "else 1 and the place of the first that isn't". */
    private static void checkTheFirstThatIsNot() {
        for (int wrong = 0; wrong < 7; wrong++) {
            LinenSigns x = Due.hung(1, 1, 1, 1, 1, 1, 1);
            fill(x, 0, 8, 1, 2, 3, 4, 5, 6, 7);
            x.write(0, wrong, 0);
            Due.is("check: wrong at " + wrong, x.check(0, 0), wrong + 1);
            x.write(0, 6, 0);
            Due.is("check: wrong at " + wrong + " first", x.check(0, 0), wrong + 1);
            Due.is("check: the sheet stays", x.write(0, wrong, 0), 0);
            Due.is("check: the line stays", x.worth(0), 7);
        }
        LinenSigns x = Due.hung(1);
        x.sheet(0, 8, 40);
        Due.is("check: wrong ahead of too many", x.check(0, 0), 1);
        x.write(0, 0, 1);
        Due.is("check: 39 too many", x.check(0, 0), 2);
    }

    /** "or which one lacks". */
    private static void checkWhichOneLacks() {
        for (int n = 0; n < 7; n++) {
            LinenSigns x = Due.hung(1, 1, 1, 1, 1, 1, 1);
            x.sheet(0, 16, n);
            for (int i = 0; i < n; i++) {
                x.write(0, i, i + 1);
            }
            Due.is("check: " + n + " lacks", x.check(0, 0), n + 1);
        }
    }

    private static void checkOfNone() {
        LinenSigns x = Due.hung(1);
        x.sheet(0, 64, 0);
        Due.is("check: none on an empty line", x.check(0, 1), 0);
        Due.is("check: none on a line of one", x.check(0, 0), 1);
        x.sheet(0, 64, 1);
        Due.is("check: one on an empty line", x.check(0, 1), 1);
        x.hang(1, 3, 1);
        Due.is("check: 0 behind a red one", x.check(0, 1), 0);
    }

    private static void checkInThisWind() {
        LinenSigns x = Due.hung(5, 6, 7);
        fill(x, 0, 8, 5, 11, 18);
        fill(x, 1, 8, 0, 6, 13);
        fill(x, 2, 8, 0, 0, 7);
        fill(x, 3, 8, 0, 0, 0);
        int[] right = {0, 0, 0, 0, 0, 0, 1, 2, 3};
        for (int wind = 0; wind <= 8; wind++) {
            x.wind(wind);
            for (int s = 0; s < 4; s++) {
                boolean isRight = s == right[wind];
                Due.is("check: sheet " + s + " in " + wind, x.check(s, 0) == 0 ? 1 : 0, isRight ? 1 : 0);
            }
        }
    }

    /** A worth that 8 bits don't hold is on no sheet of 8 bits. */
    private static void checkWhatBitsHold() {
        LinenSigns x = Due.hung(19, 9, 9, 9, 9, 1, 1);
        // 90 99 108 117 126 127 128
        fill(x, 0, 8, 90, 99, 108, 117, 126, 127, 128);
        Due.is("check: 8 bits to 127", x.check(0, 0), 7);
        fill(x, 0, 16, 90, 99, 108, 117, 126, 127, 128);
        Due.is("check: 16 bits", x.check(0, 0), 0);
        fill(x, 0, 64, 90, 99, 108, 117, 126, 127, 128);
        Due.is("check: 64 bits", x.check(0, 0), 0);
        x.write(0, 0, 90 + (1L << 32));
        Due.is("check: 64 bits, all of them", x.check(0, 0), 1);
        x = Due.hung(49, 43, 41);
        // -90 -120 -130
        fill(x, 0, 8, -90, -120, -130);
        Due.is("check: 8 bits to -128", x.check(0, 0), 3);
        fill(x, 0, 16, -90, -120, -130);
        Due.is("check: 16 bits below 0", x.check(0, 0), 0);
    }
}
