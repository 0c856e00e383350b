/** Promises 13 to 17, each sentence that names a boundary; what is refused stands in RefusedTest. */
public final class MeaningsEdgesTest {
    public static void main(String[] args) {
        meansLeastAndGreatest();
        meansAnswersWhatItWas();
        forgetEachOnce();
        numberIsNoneThen();
        readWithOneMeaning();
        readTheFarthestWorths();
        readTheLeastOfSeveral();
        readWithAllTen();
        readWithNoneLeft();
        apartNeedsTwo();
        apartLeastAndGreatest();
        apartOfEachTwo();
        Due.end();
    }

    // ---- promise 13

    /** NUMBER: -999 to 9999, for MEANINGS 0 to 9. */
    private static void meansLeastAndGreatest() {
        int[] numbers = {-999, -998, -1, 0, 1, 9998, 9999};
        for (int meaning = 0; meaning < 10; meaning++) {
            for (int number : numbers) {
                LinenSigns x = new LinenSigns();
                Due.is("means " + meaning + ", " + number, x.means(meaning, number), -1000);
                Due.is("its number", x.number(meaning), number);
                Due.is("meanings", x.count(1), 1);
                Due.is("it had one", x.forget(meaning), 1);
            }
        }
    }

    /** "what it was (-1000: none)". */
    private static void meansAnswersWhatItWas() {
        LinenSigns x = new LinenSigns();
        Due.is("was none", x.means(4, -999), -1000);
        Due.is("was the least", x.means(4, 9999), -999);
        Due.is("was the greatest", x.means(4, 0), 9999);
        Due.is("was 0", x.means(4, 0), 0);
        x.forget(4);
        Due.is("was forgotten", x.means(4, 1), -1000);
        Due.is("-1000 is no number", x.means(4, -1000), Due.BEYOND);
        Due.is("it stays", x.number(4), 1);
        Due.is("the next one has none", x.means(5, 1), -1000);
    }

    // ---- promises 14 and 15

    private static void forgetEachOnce() {
        LinenSigns x = new LinenSigns();
        for (int meaning = 0; meaning < 10; meaning++) {
            x.means(meaning, 0);
        }
        for (int meaning = 0; meaning < 10; meaning++) {
            Due.is("forget " + meaning, x.forget(meaning), 1);
            Due.is("meanings left", x.count(1), 9 - meaning);
            Due.is("forget again", x.forget(meaning), 0);
        }
        Due.is("forgetting is never refused", x.status(-1), 0);
    }

    private static void numberIsNoneThen() {
        LinenSigns x = new LinenSigns();
        Due.is("none at first", x.number(9), Due.NONE);
        x.means(9, -999);
        Due.is("the least", x.number(9), -999);
        x.forget(9);
        Due.is("none again", x.number(9), Due.NONE);
        Due.is("NONE told", x.status(3), 2);
    }

    // ---- promise 16

    private static void readWithOneMeaning() {
        for (int meaning = 0; meaning < 10; meaning++) {
            LinenSigns x = new LinenSigns();
            x.means(meaning, 9999);
            Due.is("the least worth", x.read(-9999), meaning);
            Due.is("the greatest worth", x.read(9999), meaning);
        }
    }

    /** A WORTH is -9999 to 9999. */
    private static void readTheFarthestWorths() {
        LinenSigns x = new LinenSigns();
        x.means(7, -999);
        x.means(2, 9999);
        Due.is("-9999", x.read(-9999), 7);
        Due.is("9999", x.read(9999), 2);
        // 4500 is 5499 from both
        Due.is("nearer to the less", x.read(4499), 7);
        Due.is("as near to both", x.read(4500), 2);
        Due.is("nearer to the greater", x.read(4501), 2);
        Due.is("below", x.read(-10000), Due.BEYOND);
        Due.is("above", x.read(10000), Due.BEYOND);
    }

    /** "of several the least": the least MEANING, whether its NUMBER is below or above. */
    private static void readTheLeastOfSeveral() {
        LinenSigns x = new LinenSigns();
        x.means(3, 10);
        x.means(6, 20);
        Due.is("the less number is the least meaning's", x.read(15), 3);
        x.means(1, 20);
        Due.is("the greater number is the least meaning's", x.read(15), 1);
        Due.is("one number, two meanings", x.read(20), 1);
        x.means(0, 10);
        Due.is("0 is the least of all", x.read(15), 0);
        Due.is("a nearer one counts more than a less one", x.read(16), 1);
    }

    private static void readWithAllTen() {
        LinenSigns x = new LinenSigns();
        for (int meaning = 0; meaning < 10; meaning++) {
            x.means(meaning, 100 * (9 - meaning));
        }
        for (int meaning = 0; meaning < 10; meaning++) {
            Due.is("its own number", x.read(100 * (9 - meaning)), meaning);
            Due.is("49 above", x.read(100 * (9 - meaning) + 49), meaning);
            Due.is("50 below", x.read(100 * (9 - meaning) - 50), meaning);
        }
        for (int meaning = 0; meaning < 10; meaning++) {
            x.means(meaning, -999);
        }
        Due.is("all have one number", x.read(5), 0);
    }

    /** "NONE: there are no MEANINGS", also if there were. */
    private static void readWithNoneLeft() {
        LinenSigns x = new LinenSigns();
        x.means(0, 0);
        x.forget(0);
        Due.is("none left", x.read(0), Due.NONE);
        x.means(9, 5);
        x.means(0, 6);
        x.forget(0);
        Due.is("one left", x.read(6), 9);
    }

    // ---- promise 17

    /** "NONE: there are no two." */
    private static void apartNeedsTwo() {
        LinenSigns x = new LinenSigns();
        Due.is("none", x.apart(), Due.NONE);
        x.means(9, 5);
        Due.is("one", x.apart(), Due.NONE);
        x.means(9, 7);
        Due.is("one, told twice", x.apart(), Due.NONE);
        x.means(0, 5);
        Due.is("two", x.apart(), 2);
        x.forget(9);
        Due.is("one is left", x.apart(), Due.NONE);
    }

    private static void apartLeastAndGreatest() {
        LinenSigns x = new LinenSigns();
        x.means(0, 9999);
        x.means(1, -999);
        Due.is("the greatest", x.apart(), 10998);
        x.means(1, 9999);
        Due.is("the least", x.apart(), 0);
        x.means(0, -999);
        Due.is("the greatest, the other way round", x.apart(), 10998);
    }

    private static void apartOfEachTwo() {
        for (int one = 0; one < 10; one++) {
            for (int other = one + 1; other < 10; other++) {
                LinenSigns x = new LinenSigns();
                for (int meaning = 0; meaning < 10; meaning++) {
                    x.means(meaning, 1000 * meaning);
                }
                x.means(other, 1000 * one + 1);
                Due.is("apart: " + one + " and " + other, x.apart(), 1);
                x.means(other, 1000 * one - 1);
                Due.is("apart: " + other + " and " + one, x.apart(), 1);
            }
        }
    }
}
