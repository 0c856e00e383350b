/** Promises 44 to 48: images, counts and status. */
public final class ImagesTest {
    public static void main(String[] args) {
        imageAndUndo();
        tear();
        count();
        status();
        Due.end();
    }

    private static void imageAndUndo() {
        LinenSigns x = Due.hung(1, 12, 23);
        Due.hangAll(x, 3, 54);
        x.set(0, 1, 2, 6);
        x.wind(8);
        x.means(2, 50);
        x.days(1);
        x.sheet(0, 16, 2);
        x.write(0, 0, 7);
        Due.feedText(x, "wind ");
        Due.is("image", x.image(), 1);
        x.take(0);
        Due.hangAll(x, 1, 1, 2, 3);
        x.turn(3, 0, 1);
        x.wind(3);
        x.forget(2);
        x.means(9, 1);
        x.days(40);
        x.write(0, 0, 8);
        Due.feedText(x, "11");
        Due.is("undo", x.undo(), 4);
        Due.row(x, 0, "1 12 23");
        Due.row(x, 1, "");
        Due.row(x, 3, "54");
        Due.is("wet is back", x.of(0, 1, 2), 5);
        Due.is("wind is back", x.count(3), 8);
        Due.is("day is back", x.count(4), 1);
        Due.is("number is back", x.number(2), 50);
        Due.is("none is back", x.number(9), Due.NONE);
        Due.is("sheets are not", x.write(0, 0, 0), 8);
        Due.is("the tape is not", x.count(2), 7);
        Due.is("the text", x.town(), 1);
        Due.is("wind by the text", x.count(3), 11);
        Due.is("undo: it stays", x.undo(), 4);
        Due.is("wind is back again", x.count(3), 8);
        x.take(0);
        x.image();
        x.take(3);
        Due.is("undo: the latest", x.undo(), 1);
        x.set(3, 0, 1, 9);
        x.undo();
        Due.row(x, 3, "54");
    }

    private static void tear() {
        LinenSigns x = new LinenSigns();
        Due.is("undo: nothing is kept", x.undo(), Due.NONE);
        Due.is("tear: nothing was", x.tear(), 0);
        x.hang(0, 0, 1);
        x.image();
        x.image();
        Due.is("tear", x.tear(), 1);
        Due.is("tear again", x.tear(), 0);
        Due.is("undo: torn", x.undo(), Due.NONE);
        Due.is("it hangs still", x.count(0), 1);
        Due.is("image anew", x.image(), 1);
        Due.is("undo anew", x.undo(), 1);
    }

    private static void count() {
        LinenSigns x = Due.hung(1, 2, 3);
        Due.hangAll(x, 3, 4, 5);
        Due.means(x, -999, 0, 5, 9999);
        x.forget(2);
        x.feed(0, 2);
        x.wind(19);
        x.days(99);
        x.days(7);
        int[] due = {5, 3, 2, 19, 106};
        for (int what = 0; what < 5; what++) {
            Due.is("count " + what, x.count(what), due[what]);
        }
        Due.is("count: 5", x.count(5), Due.BEYOND);
        Due.is("count: -1", x.count(-1), Due.BEYOND);
    }

    private static void status() {
        LinenSigns x = new LinenSigns();
        x.image();
        x.wind(21);
        for (int i = 0; i < 7; i++) {
            x.hang(0, 0, 1);
        }
        x.hang(0, 0, 1);
        x.hang(0, 0, 1);
        x.as(0, 0, 1);
        x.as(0, 0, 2);
        x.as(0, 0, 3);
        for (int i = 0; i < 4; i++) {
            x.says(0);
        }
        for (int i = 0; i < 101; i++) {
            x.days(99);
        }
        for (int i = 0; i < 5; i++) {
            x.days(1);
        }
        for (int i = 0; i < 6; i++) {
            x.write(0, 0, 0);
        }
        for (int i = 0; i < 7; i++) {
            x.sheet(0, 8, -1);
        }
        Due.is("status all", x.status(-1), 28);
        x.undo();
        x.tear();
        for (int which = 0; which < 7; which++) {
            Due.is("status " + which, x.status(which), which + 1);
        }
        Due.is("status: 7", x.status(7), Due.BEYOND);
        Due.is("counted then", x.status(0), 2);
        Due.is("status: -2", x.status(-2), Due.BEYOND);
        Due.is("counted then, too", x.status(0), 3);
        Due.is("status all then", x.status(-1), 30);
        Due.town(x, "hallo");
        Due.is("a fault is no finding", x.status(-1), 30);
    }
}
