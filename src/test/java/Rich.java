import java.util.ArrayList;
import java.util.List;

/** Towns with something of everything, and a look at all that can be seen of a town but its findings. */
final class Rich {
    enum State { ORDINARY, NO_MEANINGS, LAST_DAYS, FULL_TAPE, NOTHING_KEPT }

    private static final int[] FULL_LINE = {4, 13, 21, 52, 31, 42, 9};

    private Rich() {
    }

    /**
     * Line 0 is full, 1 has three garments, 2 none, 3 one. Meanings 0, 3 and 9 have numbers.
     * Sheet 0 has 5 numbers of 8 bits, 1 has 7 of 16, 2 has 4 of 64; 3 is missing.
     */
    static LinenSigns town(State state) {
        LinenSigns x = new LinenSigns();
        if (state != State.NOTHING_KEPT) {
            keepAnother(x);
        }
        letDaysGo(x, state == State.LAST_DAYS ? 9997 : 7);
        hangLines(x);
        x.wind(6);
        if (state != State.NO_MEANINGS) {
            x.means(0, 50);
            x.means(3, -20);
            x.means(9, 9999);
        }
        fillSheets(x);
        feed(x, state == State.FULL_TAPE ? fullText() : "wind 11;line 2 red 3 wet 4;meaning 5 7;forget 0");
        return x;
    }

    private static void keepAnother(LinenSigns x) {
        Due.hangAll(x, 2, 15, 36);
        x.set(2, 1, 2, 8);
        x.wind(3);
        x.means(8, 77);
        x.days(2);
        x.image();
        x.take(2);
        x.forget(8);
    }

    private static void letDaysGo(LinenSigns x, int day) {
        int gone = x.count(4);
        while (gone < day) {
            int n = Math.min(99, day - gone);
            x.days(n);
            gone += n;
        }
    }

    private static void hangLines(LinenSigns x) {
        Due.hangAll(x, 0, FULL_LINE);
        for (int peg = 0; peg < FULL_LINE.length; peg++) {
            x.set(0, peg, 2, (4 * peg + 1) % 10);
        }
        Due.hangAll(x, 1, 17, 23, 31);
        x.set(1, 1, 2, 5);
        Due.hangAll(x, 3, 58);
    }

    private static void fillSheets(LinenSigns x) {
        int[] bits = {8, 16, 64};
        int[] lengths = {5, 7, 4};
        for (int s = 0; s < 3; s++) {
            x.sheet(s, bits[s], lengths[s]);
            for (int i = 0; i < lengths[s]; i++) {
                x.write(s, i, 11 * (i + 1) + s);
            }
        }
    }

    /** 120 bytes, the last of which can be seen in what the text does. */
    static String fullText() {
        String last = ";wind 13";
        StringBuilder text = new StringBuilder("line 2 red 3 wet 4;meaning 5 7");
        while (text.length() + last.length() < 120) {
            text.append(' ');
        }
        return text.append(last).toString();
    }

    /** Feeds as many bytes a call as can be, so that few calls are needed. */
    static void feed(LinenSigns x, String text) {
        for (int at = 0; at < text.length(); at += 4) {
            int n = Math.min(4, text.length() - at);
            int bytes = 0;
            for (int i = 0; i < n; i++) {
                bytes = bytes << 8 | text.charAt(at + i) & 255;
            }
            x.feed(bytes, n);
        }
    }

    /** A feed of some text and town(). */
    static int tell(LinenSigns x, String text) {
        feed(x, text);
        return x.town();
    }

    /** All that can be seen, also by what undo() and the text make of it; the town is spent by that. */
    static List<Long> look(LinenSigns x) {
        List<Long> seen = lookAtTown(x);
        for (int s = 0; s < 4; s++) {
            // how many bits it has shows by what is left of a long number
            seen.add(x.write(s, 0, 0x123456789aL));
            seen.add(x.write(s, 0, 0));
            for (int i = 1; i < 8; i++) {
                seen.add(x.write(s, i, 0));
            }
        }
        seen.add((long) x.town());
        seen.addAll(lookAtTown(x));
        seen.add((long) x.undo());
        seen.addAll(lookAtTown(x));
        return seen;
    }

    /** Lines, wind, day, meanings, and how long the tape is. */
    static List<Long> lookAtTown(LinenSigns x) {
        List<Long> seen = new ArrayList<>();
        for (int what = 0; what < 5; what++) {
            seen.add((long) x.count(what));
        }
        for (int line = 0; line < 4; line++) {
            int kind = x.of(line, 0, 0);
            for (int peg = 0; kind >= 0; peg++, kind = x.of(line, peg, 0)) {
                seen.add((long) 100 * kind + 10 * x.of(line, peg, 1) + x.of(line, peg, 2));
            }
            seen.add((long) kind);
        }
        for (int meaning = 0; meaning < 10; meaning++) {
            seen.add((long) x.number(meaning));
        }
        return seen;
    }
}
