/** Promises 35 to 37: the tape, and the text of a town. */
public final class TextTest {
    public static void main(String[] args) {
        feed();
        items();
        tokens();
        faults();
        nothingChangesByAFault();
        Due.end();
    }

    private static void feed() {
        LinenSigns x = new LinenSigns();
        Due.is("feed: n 0", x.feed(1, 0), Due.BEYOND);
        Due.is("feed: n 5", x.feed(1, 5), Due.BEYOND);
        Due.is("feed: n -1", x.feed(1, -1), Due.BEYOND);
        Due.is("feed 4", x.feed(0x77696e64, 4), 4);
        Due.is("feed 2 of 4", x.feed(0x7a7a2031, 2), 6);
        Due.is("feed 1 of 4", x.feed(0x7a7a7a32, 1), 7);
        Due.is("bytes", x.count(2), 7);
        Due.is("town", x.town(), 1);
        Due.is("wind is", x.count(3), 12);
        Due.is("bytes then", x.count(2), 0);
        for (int i = 1; i <= 29; i++) {
            Due.is("feed on", x.feed(-1, 4), 4 * i);
        }
        Due.is("feed 3", x.feed(-1, 3), 119);
        Due.is("feed: 2 above", x.feed(-1, 2), Due.FULL);
        Due.is("feed: BEYOND is asked first", x.feed(-1, 5), Due.BEYOND);
        Due.is("feed: the last", x.feed(-1, 1), 120);
        Due.is("feed: one above", x.feed(-1, 1), Due.FULL);
        Due.is("FULL told", x.status(1), 2);
        Due.is("wipe", x.wipe(), 120);
        Due.is("wipe again", x.wipe(), 0);
        Due.is("wiped", x.count(2), 0);
        Due.is("town: nothing is left of it", Due.town(x, "wind 3"), 1);
    }

    private static void items() {
        LinenSigns x = Due.hung(1, 2, 3);
        Due.hangAll(x, 1, 4);
        x.set(0, 0, 2, 9);
        x.means(4, 7);
        x.means(5, 7);
        Due.is("town", Due.town(x, "line 0 linen 1 sheet 2 wet 3 stocking 4 red 5 wet 0 torn 6 wet 9 black 9"), 1);
        Due.row(x, 0, "1 12 24 35 46 59");
        Due.is("wet: not told", x.of(0, 0, 2), 0);
        Due.is("wet: 3", x.of(0, 1, 2), 3);
        Due.is("wet: 0", x.of(0, 3, 2), 0);
        Due.is("wet: 9", x.of(0, 4, 2), 9);
        Due.row(x, 1, "4");
        Due.is("town: seven", Due.town(x, "line 3 red 1 red 2 red 3 red 4 red 5 red 6 red 7"), 1);
        Due.row(x, 3, "31 32 33 34 35 36 37");
        Due.is("town: meanings", Due.town(x, "meaning 0 9999;meaning 9 - 999;meaning 1 0;meaning 2 -0;forget 4;forget 3"), 6);
        x.means(8, 1);
        Due.is("town: forget", Due.town(x, "meaning 9 5; forget 9; forget 8; meaning 9 -999"), 4);
        int[] due = {9999, 0, 0, Due.NONE, Due.NONE, 7, Due.NONE, Due.NONE, Due.NONE, -999};
        for (int meaning = 0; meaning < 10; meaning++) {
            Due.is("number " + meaning, x.number(meaning), due[meaning]);
        }
        Due.is("town: the last counts", Due.town(x, "wind 20;line 2 red 1;wind 0;line 2 torn 2;meaning 1 3;forget 1"), 6);
        Due.is("wind is", x.count(3), 0);
        Due.row(x, 2, "42");
        Due.is("forgotten", x.number(1), Due.NONE);
        Due.is("the day stays", x.count(4), 0);
    }

    private static void tokens() {
        LinenSigns x = new LinenSigns();
        Due.is("no blanks", Due.town(x, "line2linen3wet4sheet5;wind7;meaning3-12"), 3);
        Due.row(x, 2, "3 15");
        Due.is("wet", x.of(2, 0, 2), 4);
        Due.is("number", x.number(3), -12);
        Due.is("blanks around", Due.town(x, "   wind   3   ;   forget 3  "), 2);
        Due.is("zeros ahead", Due.town(x, "wind 00000000000000020; meaning 0007 0000000009999"), 2);
        Due.is("wind", x.count(3), 20);
        Due.is("many items", Due.town(x, "wind0;wind1;wind2;wind3;wind4;wind5;wind6;wind7;wind8;wind9;"
            + "wind0;wind1;wind2;wind3;wind4;wind5;wind6;wind7;wind8;wind9"), 20);
    }

    private static void fault(int place, String text) {
        LinenSigns x = new LinenSigns();
        Due.is("fault of \"" + text + "\"", Due.town(x, text), -1 - place);
        Due.is("no finding", x.status(-1), 0);
        Due.is("the tape is empty", x.count(2), 0);
    }

    private static void faults() {
        fault(0, "");
        fault(3, "   ");
        fault(0, "hallo");
        fault(0, "lines 0 red 1");
        fault(0, "Line 0 red 1");
        fault(0, "lin 0 red 1");
        fault(0, "7");
        fault(0, ";");
        fault(2, "  wet 3");
        fault(4, "line");
        fault(5, "line 4 red 1");
        fault(5, "line red 1");
        fault(5, "line -1 red 1");
        fault(6, "line 0");
        fault(7, "line 0 ");
        fault(6, "line 0;");
        fault(7, "line 0 wet 3");
        fault(7, "line 0 3");
        fault(10, "line 0 red");
        fault(11, "line 0 red 0");
        fault(11, "line 0 red 10");
        fault(11, "line 0 red red");
        fault(11, "line 0 red wet 3");
        fault(13, "line 0 red 1 3");
        fault(13, "line 0 red 1 reds 3");
        fault(13, "line 0 red 1 -");
        fault(16, "line 0 red 1 wet");
        fault(17, "line 0 red 1 wet 10");
        fault(17, "line 0 red 1 wet -1");
        fault(17, "line 0 red 1 wet ;");
        fault(19, "line 0 red 1 wet 3 wet 3");
        fault(13, "line 0 red 1 line 1 red 1");
        fault(13, "line 0 red 1;");
        fault(15, "line 0 red 1;  ");
        fault(13, "line 0 red 1;;wind 3");
        fault(12, "line 0 red 1, wind 3");
        fault(41, "line 0 red1red1red1red1red1red1red1      red1");
        fault(35, "line 0 red1red1red1red1red1red1red1red0");
        fault(35, "line 0 red1red1red1red1red1red1red1rod1");
        fault(4, "wind");
        fault(5, "wind 21");
        fault(5, "wind 10000");
        fault(5, "wind 4294967296");
        fault(5, "wind 18446744073709551617");
        fault(5, "wind -1");
        fault(7, "wind 1 1");
        fault(7, "wind 1 wind 1");
        fault(7, "meaning");
        fault(8, "meaning 10 1");
        fault(8, "meaning -1 1");
        fault(9, "meaning 1");
        fault(10, "meaning 1 10000");
        fault(10, "meaning 1 99990");
        fault(10, "meaning 1 ?5");
        fault(0, "windz 1");
        fault(0, "awind 1");
        fault(11, "meaning 1 -1000");
        fault(11, "meaning 1 -");
        fault(11, "meaning 1 --1");
        fault(10, "meaning 1 ;");
        fault(10, "meaning 1 red");
        fault(6, "forget");
        fault(7, "forget 10");
        fault(8, "forget 1-");
        fault(6, "forget?");
        fault(8, "forget 1?");
        fault(6, "wind 1\tforget 1");
        fault(6, "wind 1\n");
        fault(5, "wind " + (char) 177);
        fault(0, (char) 0 + "wind 1");
        fault(6, "wind 1A");
        fault(6, "wind 1`");
        fault(6, "wind 1{");
        fault(6, "wind 1/");
        fault(6, "wind 1:");
    }

    private static void nothingChangesByAFault() {
        LinenSigns x = Due.hung(1, 2, 3);
        x.means(0, 5);
        x.wind(2);
        Due.is("fault late", Due.town(x, "line 0 red 1;wind 9;forget 0;meaning 1 1;line 3 red 1;line 1 red 1 wet 11"), -1 - 71);
        Due.row(x, 0, "1 2 3");
        Due.is("wind stays", x.count(3), 2);
        Due.is("number stays", x.number(0), 5);
        Due.is("garments stay", x.count(0), 3);
        Due.is("meanings stay", x.count(1), 1);
        Due.is("the next text begins anew", Due.town(x, "line 1 red 1"), 1);
        Due.is("garments then", x.count(0), 4);
    }
}
