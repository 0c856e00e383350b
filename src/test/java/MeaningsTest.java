/** Promises 13 to 17: meanings. */
public final class MeaningsTest {
    public static void main(String[] args) {
        meansAndForget();
        read();
        apart();
        Due.end();
    }

    private static void meansAndForget() {
        LinenSigns x = new LinenSigns();
        Due.is("means", x.means(0, -999), -1000);
        Due.is("means again", x.means(0, 9999), -999);
        Due.is("means the last", x.means(9, 0), -1000);
        Due.is("means: -1000", x.means(0, -1000), Due.BEYOND);
        Due.is("means: 10000", x.means(0, 10000), Due.BEYOND);
        Due.is("means: meaning 10", x.means(10, 0), Due.BEYOND);
        Due.is("means: meaning -1", x.means(-1, 0), Due.BEYOND);
        Due.is("number", x.number(0), 9999);
        Due.is("number 0", x.number(9), 0);
        Due.is("number: none", x.number(5), Due.NONE);
        Due.is("number: 10", x.number(10), Due.BEYOND);
        Due.is("number: -1", x.number(-1), Due.BEYOND);
        Due.is("meanings", x.count(1), 2);
        Due.is("forget", x.forget(9), 1);
        Due.is("forget again", x.forget(9), 0);
        Due.is("forget: 10", x.forget(10), Due.BEYOND);
        Due.is("forget: -1", x.forget(-1), Due.BEYOND);
        Due.is("number: forgotten", x.number(9), Due.NONE);
        Due.is("means: forgotten", x.means(9, 3), -1000);
        Due.is("meanings then", x.count(1), 2);
    }

    private static void read() {
        LinenSigns x = new LinenSigns();
        Due.is("read: no meanings", x.read(0), Due.NONE);
        Due.is("read: BEYOND is asked first", x.read(-10000), Due.BEYOND);
        Due.is("read: 10000", x.read(10000), Due.BEYOND);
        x.means(4, 10);
        Due.is("read: one alone, far", x.read(-9999), 4);
        x.means(2, 20);
        x.means(7, 20);
        x.means(8, -10);
        Due.is("read: nearest", x.read(14), 4);
        Due.is("read: between, the least", x.read(15), 2);
        Due.is("read: between the other way, the least", x.read(0), 4);
        Due.is("read: the same number, the least", x.read(9999), 2);
        Due.is("read: below 0", x.read(-1), 8);
        x.forget(2);
        Due.is("read: next of the same number", x.read(20), 7);
        Due.is("read: between then", x.read(15), 4);
    }

    private static void apart() {
        LinenSigns x = new LinenSigns();
        Due.is("apart: none", x.apart(), Due.NONE);
        x.means(3, -999);
        Due.is("apart: one", x.apart(), Due.NONE);
        x.means(9, 9999);
        Due.is("apart: farthest", x.apart(), 10998);
        x.means(0, 9000);
        Due.is("apart: not the neighbours by meaning", x.apart(), 999);
        x.means(5, -998);
        Due.is("apart: 1", x.apart(), 1);
        x.means(6, 9999);
        Due.is("apart: 0", x.apart(), 0);
        x.forget(6);
        x.forget(5);
        Due.is("apart: forgotten ones don't count", x.apart(), 999);
        x.means(1, 100);
        x.means(2, 103);
        Due.is("apart: neighbours by meaning", x.apart(), 3);
        Due.is("NONE told", x.status(3), 2);
    }
}
