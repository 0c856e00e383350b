/** Promises 35 to 37 with the text block, each sentence that names a boundary; findings stand in RefusedTest. */
public final class TextEdgesTest {
    private static final String TEXT = "line 3 red 9 wet 9;wind 20;meaning 9 -999;forget 0";

    public static void main(String[] args) {
        feedOneToFour();
        feedTheLowestBytes();
        feedToTheLastByte();
        feedMoreThanThereIsRoomFor();
        wipeNoneAndAll();
        wipedBytesAreGone();
        textEndsTooEarly();
        wrongByteInEachPlace();
        eachByteAlone();
        eachByteBehindANumber();
        eachByteBehindAWord();
        eachByteBehindASign();
        numbersAtTheirEnds();
        numbersWithZerosAhead();
        numbersTooLong();
        aFullTape();
        faultsOfAFullTape();
        oneToSevenGarments();
        garmentsBehindTheFirst();
        anEighthGarment();
        wetOrNot();
        whatHungThereIsGone();
        laterItemsCome();
        oneToTwentyItems();
        blanksMayStandBetween();
        otherWords();
        itemsOneAfterTheOther();
        aFaultChangesNothing();
        theTapeIsEmptyThen();
        dayImageAndSheetsStay();
        Due.end();
    }

    private static void text(String text, int answer) {
        LinenSigns x = new LinenSigns();
        Due.is("town of \"" + text + "\"", Rich.tell(x, text), answer);
        Due.is("bytes then", x.count(2), 0);
        Due.is("findings then", x.status(-1), 0);
    }

    private static void fault(String text, int place) {
        text(text, -1 - place);
    }

    // ---- promise 35

    /** "(n 1 to 4): how many it has". */
    private static void feedOneToFour() {
        LinenSigns x = new LinenSigns();
        int has = 0;
        for (int n = 1; n <= 4; n++) {
            has += n;
            Due.is("feed " + n, x.feed(0, n), has);
            Due.is("bytes", x.count(2), has);
        }
        Due.is("feed 0", x.feed(0, 0), Due.BEYOND);
        Due.is("feed 5", x.feed(0, 5), Due.BEYOND);
        Due.is("bytes stay", x.count(2), has);
    }

    /** "the n lowest bytes of a number .., the highest of these first": what lies above them isn't told. */
    private static void feedTheLowestBytes() {
        LinenSigns x = new LinenSigns();
        x.feed(0x77696e64, 4);
        x.feed(0xff203120, 3);
        Due.is("4 and 3 bytes", x.town(), 1);
        Due.is("wind 1", x.count(3), 1);
        x.feed(0x77696e64, 4);
        x.feed(0x80003132, 2);
        Due.is("4 and 2 bytes", x.town(), 1);
        Due.is("wind 12", x.count(3), 12);
        x.feed(0x77696e64, 4);
        x.feed(0xffffff33, 1);
        Due.is("4 and 1 byte", x.town(), 1);
        Due.is("wind 3", x.count(3), 3);
        x.feed(-1, 4);
        Due.is("bytes of 255", x.town(), -1);
        x.feed(Integer.MIN_VALUE, 4);
        Due.is("bytes of 128 and 0", x.town(), -1);
        x.feed(Integer.MAX_VALUE, 1);
        Due.is("a byte of 255", x.town(), -1);
        x.feed(0x20a0, 2);
        Due.is("a byte of 160 is no blank", x.town(), -2);
    }

    /** THE TAPE: "at most 120". */
    private static void feedToTheLastByte() {
        for (int n = 1; n <= 4; n++) {
            LinenSigns x = new LinenSigns();
            for (int has = n; has <= 120; has += n) {
                Due.is("feed by " + n, x.feed(0, n), has);
            }
            Due.is("feed one above", x.feed(0, 1), Due.FULL);
            Due.is("bytes", x.count(2), 120);
        }
    }

    /** "FULL.": as many as there's room for may come, one more may not, and then none of them comes. */
    private static void feedMoreThanThereIsRoomFor() {
        for (int room = 0; room <= 3; room++) {
            for (int n = 1; n <= 4; n++) {
                LinenSigns x = new LinenSigns();
                Rich.feed(x, " ".repeat(120 - room));
                Due.is("feed " + n + ", room for " + room, x.feed(0, n), n <= room ? 120 - room + n : Due.FULL);
                Due.is("bytes then", x.count(2), n <= room ? 120 - room + n : 120 - room);
                Due.is("FULL told", x.status(1), n <= room ? 0 : 1);
            }
        }
    }

    // ---- promise 36

    private static void wipeNoneAndAll() {
        for (int n : new int[] {0, 1, 119, 120}) {
            LinenSigns x = new LinenSigns();
            Rich.feed(x, "x".repeat(n));
            Due.is("wipe " + n, x.wipe(), n);
            Due.is("bytes then", x.count(2), 0);
            Due.is("wipe again", x.wipe(), 0);
        }
    }

    private static void wipedBytesAreGone() {
        LinenSigns x = new LinenSigns();
        Rich.feed(x, "wind 12;wind 13");
        x.wipe();
        Due.is("a text of none", x.town(), -1);
        Rich.feed(x, "wind 12;wind 13");
        x.wipe();
        Due.is("a shorter text", Rich.tell(x, "wind 7"), 1);
        Due.is("wind", x.count(3), 7);
        Rich.feed(x, "x".repeat(120));
        x.wipe();
        Due.is("there is room again", x.feed(0, 4), 4);
    }

    // ---- promise 37

    /** "or how many bytes there are if it ends too early": each beginning of a text. */
    private static void textEndsTooEarly() {
        int[] due = {
            -1, -1, -1, -1, -5, -6, -7, -8, -8, -8, -11, -12, 1, 1, -14, -14, -17, -18, 1,
            -20, -20, -20, -20, -24, -25, 2, 2,
            -28, -28, -28, -28, -28, -28, -28, -35, -36, -37, -38, -39, 3, 3, 3,
            -43, -43, -43, -43, -43, -43, -49, -50, 4};
        Due.is("beginnings", due.length, TEXT.length() + 1);
        for (int n = 0; n <= TEXT.length(); n++) {
            text(TEXT.substring(0, n), due[n]);
        }
    }

    /** "a byte that begins no TOKEN": within a word that leaves another WORD, else it is told itself. */
    private static void wrongByteInEachPlace() {
        for (int i = 0; i < TEXT.length(); i++) {
            int place = i;
            while (Character.isLetter(TEXT.charAt(i)) && place > 0 && Character.isLetter(TEXT.charAt(place - 1))) {
                place--;
            }
            fault(TEXT.substring(0, i) + '?' + TEXT.substring(i + 1), place);
        }
    }

    private static void eachByteAlone() {
        for (int b = 0; b < 256; b++) {
            fault(String.valueOf((char) b), b == ' ' ? 1 : 0);
        }
    }

    private static void eachByteBehindANumber() {
        for (int b = 0; b < 256; b++) {
            String text = "wind 1" + (char) b;
            if (b == ' ' || b >= '0' && b <= '9') {
                text(text, 1);
            } else {
                fault(text, b == ';' ? 7 : 6);
            }
        }
    }

    private static void eachByteBehindAWord() {
        for (int b = 0; b < 256; b++) {
            String text = "wind" + (char) b;
            if (b >= '0' && b <= '9') {
                text(text, 1);
            } else {
                fault(text, b == ' ' ? 5 : b >= 'a' && b <= 'z' ? 0 : 4);
            }
        }
    }

    private static void eachByteBehindASign() {
        for (int b = 0; b < 256; b++) {
            String below = "meaning 0-" + (char) b;
            String next = "wind 0;" + (char) b;
            if (b >= '0' && b <= '9') {
                text(below, 1);
            } else {
                fault(below, b == ' ' ? 11 : 10);
            }
            fault(next, b == ' ' ? 8 : 7);
        }
    }

    /** Each NUMBER that is named: the least, the greatest, and the first beyond. */
    private static void numbersAtTheirEnds() {
        for (String line : new String[] {"0", "1", "2", "3"}) {
            text("line " + line + " red 1", 1);
        }
        fault("line 4 red 1", 5);
        fault("line 9999 red 1", 5);
        for (int size = 0; size <= 10; size++) {
            text("line 0 red " + size, size == 0 || size == 10 ? -12 : 1);
            text("line 0 red 1 wet " + size, size == 10 ? -18 : 1);
            text("forget " + size, size == 10 ? -8 : 1);
            text("meaning " + size + " 5", size == 10 ? -9 : 1);
        }
        for (int wind = 0; wind <= 21; wind++) {
            LinenSigns x = new LinenSigns();
            Due.is("wind " + wind, Rich.tell(x, "wind " + wind), wind == 21 ? -6 : 1);
            Due.is("it is", x.count(3), wind == 21 ? 0 : wind);
        }
        number("0", 0);
        number("9999", 9999);
        number("-0", 0);
        number("-1", -1);
        number("- 999", -999);
        fault("meaning 0 10000", 10);
        fault("meaning 0 -1000", 11);
        fault("meaning 0 - 9999", 12);
        fault("line -0 red 1", 5);
        fault("line 0 red -1", 11);
        fault("line 0 red 1 wet -0", 17);
        fault("wind -0", 5);
        fault("forget -0", 7);
        fault("meaning -0 1", 8);
    }

    private static void number(String told, int number) {
        for (int meaning = 0; meaning < 10; meaning++) {
            LinenSigns x = new LinenSigns();
            Due.is("meaning " + told, Rich.tell(x, "meaning " + meaning + " " + told), 1);
            Due.is("its number", x.number(meaning), number);
            Due.is("meanings", x.count(1), 1);
        }
    }

    private static void numbersWithZerosAhead() {
        number("0009999", 9999);
        number("-000999", -999);
        number("0".repeat(100), 0);
        number("0".repeat(100) + "9999", 9999);
        fault("meaning 0 010000", 10);
        fault("meaning 0 -01000", 11);
        text("line 003 red 09 wet 009", 1);
        fault("line 004 red 09", 5);
        fault("line 0 red 00", 11);
    }

    /** "NUMBERS (digits, 9999 at most)", "each as long as can be": a long one is one token. */
    private static void numbersTooLong() {
        String[] numbers = {"10000", "99999", "65536", "4294967296", "4294967297", "18446744073709551616",
            "18446744073709551617", "1" + "0".repeat(100), "9".repeat(100)};
        for (String number : numbers) {
            fault("wind " + number, 5);
            fault("line " + number, 5);
            fault("line 0 red " + number, 11);
            fault("line 0 red 1 wet " + number, 17);
            fault("meaning " + number, 8);
            fault("meaning 0 " + number, 10);
            fault("meaning 0 -" + number, 11);
            fault("forget " + number, 7);
        }
    }

    private static void aFullTape() {
        LinenSigns x = new LinenSigns();
        String text = Rich.fullText();
        Due.is("bytes", text.length(), 120);
        Due.is("a text of 120 bytes", Rich.tell(x, text), 3);
        Due.is("its last byte", x.count(3), 13);
        text(" ".repeat(114) + "wind 9", 1);
        text("wind 9" + " ".repeat(114), 1);
        text("wind " + "0".repeat(114) + "9", 1);
    }

    private static void faultsOfAFullTape() {
        fault(" ".repeat(120), 120);
        fault("wind 9;" + " ".repeat(113), 120);
        fault("wind 9" + " ".repeat(113) + "?", 119);
        fault("wind 9" + " ".repeat(113) + ";", 120);
        fault("wind 9" + " ".repeat(113) + "9", 119);
        fault("wind 9;" + " ".repeat(109) + "wind", 120);
        fault("wind 9;" + " ".repeat(109) + "wine", 116);
        fault("x".repeat(120), 0);
        fault("9".repeat(120), 0);
        fault(" ".repeat(119) + "-", 119);
    }

    /** "then one or more GARMENTS". */
    private static void oneToSevenGarments() {
        fault("line 0", 6);
        fault("line 0;wind 1", 6);
        fault("line 0 wet 1", 7);
        for (int n = 1; n <= 7; n++) {
            for (int line = 0; line < 4; line++) {
                LinenSigns x = new LinenSigns();
                Due.is(n + " garments", Rich.tell(x, "line " + line + " stocking9wet9".repeat(n)), 1);
                Due.is("they hang", x.count(0), n);
                Due.is("the last one's size", x.of(line, n - 1, 1), 9);
                Due.is("the last one's wet", x.of(line, n - 1, 2), 9);
            }
        }
        String[] names = {"linen", "sheet", "stocking", "red", "torn", "black"};
        for (int kind = 0; kind < 6; kind++) {
            LinenSigns x = new LinenSigns();
            Due.is(names[kind], Rich.tell(x, "line 0 " + names[kind] + " 1"), 1);
            Due.is("its kind", x.of(0, 0, 0), kind);
            fault("line 0 " + names[kind] + "s 1", 7);
            fault("line 0 " + names[kind].substring(1) + " 1", 7);
            fault("line 0 " + names[kind].substring(0, names[kind].length() - 1) + " 1", 7);
            fault(names[kind] + " 1", 0);
        }
    }

    /** Garments 2 to 7 are told as the first one is: each kind, and each way to end too early or to go wrong. */
    private static void garmentsBehindTheFirst() {
        String[] names = {"linen", "sheet", "stocking", "red", "torn", "black"};
        for (int ahead = 1; ahead <= 6; ahead++) {
            String first = "line 0" + " red1".repeat(ahead) + " ";
            int at = first.length();
            for (int kind = 0; kind < 6; kind++) {
                String name = names[kind];
                LinenSigns x = new LinenSigns();
                Due.is(name + " behind " + ahead, Rich.tell(x, first + name + " 9 wet 8"), 1);
                Due.is("its kind", x.of(0, ahead, 0), kind);
                Due.is("its size", x.of(0, ahead, 1), 9);
                Due.is("its wet", x.of(0, ahead, 2), 8);
                fault(first + name, at + name.length());
                fault(first + name + ";", at + name.length());
                fault(first + name + " 0", at + name.length() + 1);
                fault(first + name + " 10", at + name.length() + 1);
                fault(first + name + " 1 wet", at + name.length() + 6);
                fault(first + name + " 1 wet 10", at + name.length() + 7);
                fault(first + name + " 1 1", at + name.length() + 3);
            }
        }
    }

    /** "an 8th GARMENT: the name of its KIND". */
    private static void anEighthGarment() {
        String seven = "line 0" + " red 1".repeat(7);
        text(seven, 1);
        fault(seven + " red 1", 49);
        fault(seven + " red", 49);
        fault(seven + " red 10", 49);
        fault(seven + " rod 1", 49);
        fault(seven + " wet 1 red 1", 55);
        text(seven + ";line 1" + " red 1".repeat(7), 2);
        fault(seven + ";line 1" + " red 1".repeat(8), 98);
    }

    /** "perhaps wet and a NUMBER": else it is 0, whatever hung there. */
    private static void wetOrNot() {
        LinenSigns x = Due.hung(1, 2);
        x.set(0, 0, 2, 9);
        x.set(0, 1, 2, 9);
        Due.is("wet or not", Rich.tell(x, "line 0 red 1 red 2 wet 3 red 3 wet 0 red 4"), 1);
        int[] due = {0, 3, 0, 0};
        for (int peg = 0; peg < 4; peg++) {
            Due.is("wet of " + peg, x.of(0, peg, 2), due[peg]);
        }
        fault("line 0 red 1 wet 3 wet 3", 19);
        fault("line 0 red wet 3", 11);
    }

    private static void whatHungThereIsGone() {
        for (int line = 0; line < 4; line++) {
            LinenSigns x = new LinenSigns();
            for (int each = 0; each < 4; each++) {
                Due.hangAll(x, each, 1, 2, 3, 4, 5, 6, 7);
            }
            Due.is("one for seven", Rich.tell(x, "line " + line + " black 9"), 1);
            for (int each = 0; each < 4; each++) {
                Due.row(x, each, each == line ? "59" : "1 2 3 4 5 6 7");
            }
        }
    }

    private static void laterItemsCome() {
        LinenSigns x = new LinenSigns();
        Due.is("a line twice", Rich.tell(x, "line 0 red 1 red 2 red 3;line 0 torn 4"), 2);
        Due.row(x, 0, "44");
        Due.is("a meaning told and forgotten", Rich.tell(x, "meaning 0 1;forget 0"), 2);
        Due.is("none", x.number(0), Due.NONE);
        Due.is("a meaning forgotten and told", Rich.tell(x, "forget 0;meaning 0 1;meaning 0 2"), 3);
        Due.is("the last", x.number(0), 2);
        Due.is("winds", Rich.tell(x, "wind 20;wind 0;wind 7"), 3);
        Due.is("the last wind", x.count(3), 7);
    }

    private static void oneToTwentyItems() {
        for (int n = 1; n <= 20; n++) {
            StringBuilder text = new StringBuilder("wind0");
            for (int i = 1; i < n; i++) {
                text.append(";wind").append(i % 10);
            }
            text(text.toString(), n);
            if (n < 20) {
                fault(text + ";", text.length() + 1);
            }
        }
    }

    private static void blanksMayStandBetween() {
        LinenSigns x = new LinenSigns();
        Due.is("as few as can be", Rich.tell(x, "line3red9wet9black1;wind20;meaning9-999;forget0"), 4);
        Due.row(x, 3, "39 51");
        Due.is("number", x.number(9), -999);
        Due.is("many", Rich.tell(x, "  line  3  red  9  wet  9  ;  wind  20  ;  meaning  9  -  999  ;  forget  0  "), 4);
        Due.row(x, 3, "39");
        Due.is("number then", x.number(9), -999);
        fault("li ne 3 red 9", 0);
        fault("wind 2 0", 7);
        fault("meaning 9 9 9", 12);
        for (char other : new char[] {'\t', '\n', '\r', '\f', 0, 11, 160}) {
            fault("wind" + other + "1", 4);
        }
    }

    /** "another WORD": words that stand somewhere else, and those with a letter more or less. */
    private static void otherWords() {
        String[] words = {"wet", "linen", "lin", "lines", "winds", "win", "meanings", "meanin", "forgets", "forge", "x"};
        for (String word : words) {
            fault(word + " 1 red 1", 0);
            fault("wind 1;" + word + " 1", 7);
            fault("wind " + word, 5);
            fault("wind 1 " + word, 7);
            fault("line 0 red 1;" + word, 13);
        }
        for (String word : new String[] {"line", "wind", "meaning", "forget", "wetter", "we", "redd", "re"}) {
            fault("line 0 red 1 " + word + " 1", 13);
            fault("line 0 " + word + " 1", 7);
        }
        fault("LINE 0 red 1", 0);
        fault("line 0 Red 1", 7);
    }

    /** "ITEM { ; ITEM }": neither two of ; nor none between. */
    private static void itemsOneAfterTheOther() {
        fault(";", 0);
        fault(";wind 1", 0);
        fault("wind 1;;wind 1", 7);
        fault("wind 1; ;wind 1", 8);
        fault("wind 1 wind 1", 7);
        fault("forget 1 forget 1", 9);
        fault("meaning 1 1 meaning 1 1", 12);
        fault("wind 1 - wind 1", 7);
        fault("wind;1", 4);
        fault("line;0 red 1", 4);
        fault("line 0 red;1", 10);
        fault("line 0 red 1 wet;1", 16);
        fault("meaning;1 1", 7);
        fault("meaning 1;1", 9);
        fault("meaning 1 -;1", 11);
        fault("meaning 1 --1", 11);
        fault("forget;1", 6);
    }

    /** "With a FAULT: .. (nothing changes but that THE TAPE is empty; no finding)", wherever it stands. */
    private static void aFaultChangesNothing() {
        String good = "line 0 black 9;wind 9;meaning 0 7;meaning 1 1;forget 3;line 3 red 1;line 2 red 1 wet 3";
        for (String end : new String[] {";", "?", " wet", " red 10", " 1", ";line 4", ";wind 21", ";meaning 0 -1000"}) {
            LinenSigns x = Rich.town(Rich.State.ORDINARY);
            LinenSigns y = Rich.town(Rich.State.ORDINARY);
            x.wipe();
            y.wipe();
            Due.holds("fault by " + end, Rich.tell(x, good + end) < 0);
            Due.is("no finding", x.status(-1), 0);
            Due.holds("nothing changes by " + end, Rich.look(x).equals(Rich.look(y)));
        }
    }

    private static void theTapeIsEmptyThen() {
        LinenSigns x = new LinenSigns();
        Due.is("a text", Rich.tell(x, "wind 3"), 1);
        Due.is("bytes", x.count(2), 0);
        Due.is("told again", x.town(), -1);
        Due.is("wind stays", x.count(3), 3);
        Due.is("a fault", Rich.tell(x, "wind 21"), -6);
        Due.is("bytes then", x.count(2), 0);
        Due.is("told again then", x.town(), -1);
        Due.is("there is room again", x.feed(0, 1), 1);
    }

    private static void dayImageAndSheetsStay() {
        LinenSigns x = Due.hung(1);
        x.days(9);
        x.image();
        x.sheet(0, 8, 1);
        x.write(0, 0, 5);
        Due.is("a text", Rich.tell(x, "line 0 red 1 red 2;meaning 0 1;wind 4"), 3);
        Due.is("day", x.count(4), 9);
        Due.is("sheet", x.write(0, 0, 5), 5);
        Due.is("undo", x.undo(), 1);
        Due.is("wind is back", x.count(3), 0);
        Due.is("meaning is back", x.number(0), Due.NONE);
    }
}
