/** Promises 38 to 43: sheets. */
public final class SheetsTest {
    public static void main(String[] args) {
        sheet();
        write();
        copy();
        copyFindings();
        lays();
        show();
        check();
        Due.end();
    }

    private static void sheet() {
        LinenSigns x = new LinenSigns();
        Due.is("sheet", x.sheet(0, 8, 40), 40);
        Due.is("sheet of none", x.sheet(3, 64, 0), 0);
        Due.is("sheet: s 4", x.sheet(4, 8, 1), Due.BEYOND);
        Due.is("sheet: s -1", x.sheet(-1, 8, -1), Due.BEYOND);
        Due.is("sheet: bits 32", x.sheet(0, 32, -1), Due.BEYOND);
        Due.is("sheet: bits -8", x.sheet(0, -8, 1), Due.BEYOND);
        Due.is("sheet: n -1", x.sheet(0, 16, -1), Due.SIZE);
        Due.is("sheet: n -1, bits 0", x.sheet(0, 0, -1), Due.SIZE);
        Due.is("sheet: n 41", x.sheet(0, 16, 41), Due.BEYOND);
        Due.is("sheet: n 41, bits 0", x.sheet(0, 0, 41), Due.BEYOND);
        Due.is("SIZE told", x.status(6), 2);
        Due.is("findings change nothing", x.write(0, 39, 7), 0);
        Due.is("sheet: missing", x.sheet(1, 0, 40), 0);
        Due.is("it is missing", x.write(1, 0, 0), Due.MISSING);
        Due.is("sheet anew", x.sheet(0, 8, 40), 40);
        Due.is("all 0", x.write(0, 39, 0), 0);
        Due.is("sheet away", x.sheet(0, 0, 0), 0);
        Due.is("it is missing then", x.write(0, 0, 0), Due.MISSING);
        x.sheet(0, 64, 2);
        x.write(0, 1, 5);
        x.sheet(0, 64, 1);
        Due.is("shorter", x.write(0, 1, 5), Due.BEYOND);
        x.sheet(0, 64, 2);
        Due.is("0 where a number was", x.write(0, 1, 5), 0);
    }

    private static void write() {
        LinenSigns x = new LinenSigns();
        x.sheet(0, 8, 2);
        x.sheet(1, 16, 2);
        x.sheet(2, 64, 2);
        long[] values = {0x123456789abcdef0L, -1L, 128L, 32768L, 65535L, Long.MIN_VALUE, 127L};
        for (long v : values) {
            x.write(0, 1, v);
            Due.is("8 bits of " + v, x.write(0, 1, 0), (byte) v);
            x.write(1, 1, v);
            Due.is("16 bits of " + v, x.write(1, 1, 0), (short) v);
            x.write(2, 1, v);
            Due.is("64 bits of " + v, x.write(2, 1, 0), v);
        }
        Due.is("the other number stays", x.write(2, 0, 0), 0);
        Due.is("write: no such sheet", x.write(4, 0, 0), Due.BEYOND);
        Due.is("write: sheet -1", x.write(-1, 0, 0), Due.BEYOND);
        Due.is("write: MISSING is asked first", x.write(3, -1, 0), Due.MISSING);
        Due.is("write: number 2", x.write(0, 2, 0), Due.BEYOND);
        Due.is("write: number -1", x.write(0, -1, 0), Due.BEYOND);
        Due.is("MISSING told", x.status(5), 1);
    }

    private static void copy() {
        LinenSigns x = new LinenSigns();
        x.sheet(0, 16, 5);
        x.sheet(1, 16, 3);
        for (int i = 0; i < 5; i++) {
            x.write(0, i, 10 + i);
        }
        Due.is("copy", x.copy(0, 3, 1, 1, 2), 2);
        numbers(x, 1, 0, 13, 14);
        numbers(x, 0, 10, 11, 12, 13, 14);
        Due.is("copy: behind itself", x.copy(0, 0, 0, 1, 4), 4);
        numbers(x, 0, 10, 10, 11, 12, 13);
        Due.is("copy: ahead of itself", x.copy(0, 2, 0, 0, 3), 3);
        numbers(x, 0, 11, 12, 13, 12, 13);
        Due.is("copy: none at the end", x.copy(0, 5, 1, 3, 0), 0);
    }

    private static void numbers(LinenSigns x, int s, long... due) {
        for (int i = 0; i < due.length; i++) {
            long was = x.write(s, i, 0);
            Due.is("number " + i + " of sheet " + s, was, due[i]);
            x.write(s, i, was);
        }
        Due.is("no more numbers", x.write(s, due.length, 0), Due.BEYOND);
    }

    private static void copyFindings() {
        LinenSigns x = new LinenSigns();
        x.sheet(0, 16, 5);
        x.sheet(1, 8, 5);
        x.sheet(2, 16, 3);
        Due.is("copy: s", x.copy(4, 0, 3, 0, 0), Due.BEYOND);
        Due.is("copy: t", x.copy(3, 0, -1, 0, 0), Due.BEYOND);
        Due.is("copy: s missing", x.copy(3, 0, 0, 0, -1), Due.MISSING);
        Due.is("copy: t missing", x.copy(0, 0, 3, 0, -1), Due.MISSING);
        Due.is("copy: other bits", x.copy(0, 0, 1, 0, -1), Due.KIND);
        Due.is("copy: n -1", x.copy(0, 1, 2, 1, -1), Due.BEYOND);
        Due.is("copy: from -1", x.copy(0, -1, 2, 0, 1), Due.BEYOND);
        Due.is("copy: to -1", x.copy(0, 0, 2, -1, 1), Due.BEYOND);
        Due.is("copy: s has not so many", x.copy(0, 4, 2, 0, 2), Due.BEYOND);
        Due.is("copy: t has not so many", x.copy(0, 0, 2, 2, 2), Due.BEYOND);
        Due.is("copy: none, beyond the end", x.copy(0, 6, 2, 0, 0), Due.BEYOND);
        Due.is("copy: none, beyond the other's end", x.copy(0, 0, 2, 4, 0), Due.BEYOND);
        Due.is("copy: very many", x.copy(0, 1, 2, 1, Integer.MAX_VALUE), Due.BEYOND);
        Due.is("copy: very far", x.copy(0, Integer.MAX_VALUE, 2, 1, 1), Due.BEYOND);
        Due.is("copy: very far to", x.copy(0, 1, 2, Integer.MAX_VALUE, 3), Due.BEYOND);
        Due.is("KIND told", x.status(2), 1);
        Due.is("MISSING told", x.status(5), 2);
        Due.is("BEYOND told", x.status(0), 12);
        x.sheet(2, 16, 5);
        Due.is("copy: all", x.copy(0, 0, 2, 0, 5), 5);
    }

    private static void lays() {
        LinenSigns x = Due.hung(1, 2, 3);
        x.set(0, 0, 2, 9);
        x.sheet(0, 64, 40);
        long[] codes = {59, 41, 33, 27, 15, 1, 9, 8};
        for (int i = 0; i < codes.length; i++) {
            x.write(0, i, codes[i]);
        }
        Due.is("lays: the 7th is the last", x.lays(0, 0), 7);
        Due.row(x, 0, "59 41 33 27 15 1 9");
        Due.is("lays: dry", x.of(0, 0, 2), 0);
        long[] none = {0, 10, 20, 50, 60, 61, -1, -9, 69, 4294967297L, Long.MIN_VALUE + 1, Long.MAX_VALUE};
        for (long code : none) {
            x.write(0, 2, code);
            Due.is("lays: up to " + code, x.lays(0, 3), 2);
            Due.row(x, 3, "59 41");
        }
        x.write(0, 0, 0);
        Due.is("lays: what hung there is gone", x.lays(0, 0), 0);
        Due.row(x, 0, "");
        x.sheet(0, 8, 3);
        for (int i = 0; i < 3; i++) {
            x.write(0, i, 22);
        }
        Due.is("lays: no more numbers", x.lays(0, 1), 3);
        sheetAndLine(4, 5, Due.BEYOND);
        sheetAndLine(-1, 0, Due.BEYOND);
        sheetAndLine(1, 5, Due.MISSING);
        sheetAndLine(0, 4, Due.BEYOND);
        sheetAndLine(0, -1, Due.BEYOND);
    }

    private static void sheetAndLine(int s, int line, int due) {
        LinenSigns x = Due.hung(5);
        x.sheet(0, 8, 4);
        Due.is("lays: sheet " + s + ", line " + line, x.lays(s, line), due);
        Due.is("show: sheet " + s + ", line " + line, x.show(s, line), due);
        Due.is("check: sheet " + s + ", line " + line, x.check(s, line), due);
        Due.is("told three times", x.status(-1), 3);
    }

    private static void show() {
        LinenSigns x = Due.hung(19, 31, 2);
        x.wind(7);
        x.sheet(0, 64, 40);
        x.write(0, 21, 77);
        Due.is("show", x.show(0, 0), 21);
        for (int wind = 0; wind < 40; wind++) {
            int due = wind == 21 ? 77 : wind < 2 ? 182 : wind == 2 ? 92 : wind < 19 ? 90 : 0;
            Due.is("shown in " + wind, x.write(0, wind, 0), due);
        }
        Due.is("the wind stays", x.count(3), 7);
        x.sheet(0, 8, 3);
        Due.is("show: as far as it has numbers", x.show(0, 0), 3);
        numbers(x, 0, (byte) 182, (byte) 182, 92);
        x.sheet(0, 16, 1);
        x.turn(0, 0, 4);
        Due.is("show: one", x.show(0, 0), 1);
        numbers(x, 0, -178);
        x.sheet(0, 16, 0);
        Due.is("show: none", x.show(0, 0), 0);
    }

    private static void check() {
        LinenSigns x = Due.hung(19, 39, 2, 49);
        // 90 180 182 92
        x.sheet(0, 16, 4);
        long[] due = {90, 180, 182, 92};
        for (int i = 0; i < 4; i++) {
            Due.is("check: not yet", x.check(0, 0), 1 + i);
            x.write(0, i, due[i]);
        }
        Due.is("check", x.check(0, 0), 0);
        x.sheet(1, 16, 5);
        x.copy(0, 0, 1, 0, 4);
        Due.is("check: a number too many", x.check(1, 0), 5);
        x.write(1, 1, 0);
        Due.is("check: the first that isn't", x.check(1, 0), 2);
        x.sheet(1, 16, 3);
        x.copy(0, 0, 1, 0, 3);
        Due.is("check: one lacks", x.check(1, 0), 4);
        x.wind(3);
        Due.is("check: in this wind", x.check(0, 0), 3);
        x.write(0, 2, 180);
        x.write(0, 3, 90);
        Due.is("check: one that isn't seen leaves it", x.check(0, 0), 0);
        x.sheet(2, 8, 4);
        x.write(2, 0, 90);
        x.write(2, 1, 180);
        Due.is("check: 8 bits don't hold 180", x.check(2, 0), 2);
        x.sheet(3, 64, 0);
        Due.is("check: both empty", x.check(3, 1), 0);
        Due.is("check: all lack", x.check(3, 0), 1);
        x.sheet(3, 64, 1);
        Due.is("check: 0 on an empty line", x.check(3, 1), 1);
        x.hang(1, 4, 9);
        x.write(3, 0, -90);
        Due.is("check: below 0", x.check(3, 1), 0);
        x.write(3, 0, -90 + (1L << 32));
        Due.is("check: all 64 bits", x.check(3, 1), 1);
    }
}
