/** Promise 4: bytes of w, the lowest first, go on the tape, 120 at most. */
public final class FeedTest {
    private static final long SEVEN = 0x64_64_64_64_64_64_64L;
    private final Check check = new Check();

    public static void main(String[] args) {
        FeedTest test = new FeedTest();
        test.noneOfOneToSeven();
        test.oneToSeven();
        test.lowestFirst();
        test.tapeAt120();
        test.oneAbove120();
        test.badBeforeFull();
        test.roomAgainWhenTheTapeIsEmpty();
        test.bytesOf128AndMore();
        test.check.end();
    }

    /** A tape of so many variables 0. */
    private static NarrowSolver tape(int numbers) {
        NarrowSolver x = new NarrowSolver();
        for (int i = 0; i < numbers / 7; i++) {
            x.feed(SEVEN, 7);
        }
        for (int i = 0; i < numbers % 7; i++) {
            x.feed(100, 1);
        }
        return x;
    }

    private void noneOfOneToSeven() {
        NarrowSolver x = tape(3);
        for (int n : new int[] {0, -1, -7, 8, 9, 100, Integer.MIN_VALUE, Integer.MAX_VALUE}) {
            check.due("feed(0, " + n + ")", x.feed(0, n), NarrowSolver.BAD);
            check.due("none came", x.count(8), 3);
        }
    }

    private void oneToSeven() {
        for (int n = 1; n <= 7; n++) {
            NarrowSolver x = new NarrowSolver();
            check.due("feed of " + n, x.feed(SEVEN, n), n);
            check.due("count(8)", x.count(8), n);
            check.due("feed of " + n + " again", x.feed(SEVEN, n), 2 * n);
            check.due("all of them are on the tape", x.problem(), n);
        }
    }

    /** The eighth byte, and those above n, are never taken. */
    private void lowestFirst() {
        NarrowSolver x = new NarrowSolver();
        check.due("feed of 7", x.feed(0xEE_68_69_68_67_66_65_64L, 7), 7);
        check.due("feed of 1", x.feed(0xEE_EE_EE_65L, 1), 8);
        check.due("problem()", x.problem(), 4);
        check.waits("in order", x, 0, 100, 101, 102, 103, 104, 105, 104, 101);
        check.due("empty then", x.count(8), 0);
    }

    private void tapeAt120() {
        for (int n = 1; n <= 7; n++) {
            NarrowSolver x = tape(120 - n);
            check.due("before", x.count(8), 120 - n);
            check.due("the last " + n, x.feed(0x66_66_66_66_66_66_66L, n), 120);
            check.due("count(8)", x.count(8), 120);
            check.due("problem() of 120", x.problem(), 60);
            check.due("the last one before", x.waiting(0, 3 + 119 - n), 100);
            check.due("the first that came", x.waiting(0, 3 + 120 - n), 102);
            check.due("the last that came", x.waiting(0, 3 + 119), 102);
            check.due("none behind", x.waiting(0, 3 + 120), NarrowSolver.NONE);
        }
    }

    private void oneAbove120() {
        for (int n = 1; n <= 7; n++) {
            NarrowSolver x = tape(121 - n);
            check.due("121 with " + n, x.feed(0x66_66_66_66_66_66_66L, n), NarrowSolver.FULL);
            check.due("none came", x.count(8), 121 - n);
            for (int fits = 1; fits < n; fits++) {
                check.due("one by one they fit", x.feed(101, 1), 121 - n + fits);
            }
            check.due("but the last", x.feed(101, 1), NarrowSolver.FULL);
            check.due("problem() of 120", x.problem(), 60);
            check.due("the last one before", x.waiting(0, 3 + 120 - n), 100);
            check.due("none of those that had no room", x.waiting(0, 3 + 121 - n), n > 1 ? 101 : NarrowSolver.NONE);
        }
    }

    private void badBeforeFull() {
        NarrowSolver x = tape(120);
        for (int n : new int[] {0, -1, 8, Integer.MIN_VALUE, Integer.MAX_VALUE}) {
            check.due("feed(0, " + n + ") at 120", x.feed(0, n), NarrowSolver.BAD);
        }
        for (int n = 1; n <= 7; n++) {
            check.due("feed(0, " + n + ") at 120", x.feed(0, n), NarrowSolver.FULL);
        }
        check.due("none came", x.count(8), 120);
    }

    private void roomAgainWhenTheTapeIsEmpty() {
        NarrowSolver x = tape(120);
        check.due("rule()", x.rule(), NarrowSolver.LONG);
        check.due("after rule()", x.feed(SEVEN, 7), 7);
        x = tape(120);
        check.due("problem()", x.problem(), 60);
        check.due("after problem()", x.feed(SEVEN, 7), 7);
        x = tape(120);
        check.due("clear()", x.clear(), 0);
        check.due("after clear()", x.feed(SEVEN, 7), 7);
    }

    /** They are numbers of 128 to 255, never below 0, and neither symbols nor variables, whatever their lower bits are. */
    private void bytesOf128AndMore() {
        NarrowSolver x = new NarrowSolver();
        for (int s = 0; s < 24; s++) {
            x.symbol(false, 0);
        }
        for (int number : new int[] {127, 128, 129, 128 + 23, 128 + 100, 128 + 109, 254, 255}) {
            check.due("feed of " + number, x.feed(number, 1), 1);
            x.feed(100, 1);
            check.due("problem() with " + number, x.problem(), NarrowSolver.ODD);
            x.feed(100, 1);
            check.due("feed of " + number, x.feed(number, 1), 2);
            check.due("rule() with " + number, x.rule(), NarrowSolver.ODD);
        }
        for (int n = 1; n <= 7; n++) {
            check.due("feed(-1, " + n + ")", x.feed(-1L, n), n);
            check.due("rule()", x.rule(), NarrowSolver.ODD);
        }
        check.due("high bytes that are not taken", x.feed(0xFF_FF_FF_FF_FF_FF_05_64L, 2), 2);
        check.due("problem()", x.problem(), 1);
        check.waits("they change nothing", x, 0, 100, 5);
        check.due("one of them between others", x.feed(0x64_80_64L, 3), 3);
        check.due("problem()", x.problem(), NarrowSolver.ODD);
        check.due("one of them behind a rule's terms", x.feed(0x80_64_64L, 3), 3);
        check.due("rule()", x.rule(), NarrowSolver.LONG);
    }
}
