/** Promise 4: bytes of w, the lowest first, go on the tape, 120 at most. */
public final class FeedTest {
    public static void main(String[] args) {
        Check check = new Check();
        wrongNumbers(check);
        order(check);
        room(check);
        signs(check);
        check.end();
    }

    private static void wrongNumbers(Check check) {
        NarrowSolver x = new NarrowSolver();
        for (int n : new int[] {0, -1, 8, 9, 100, Integer.MIN_VALUE, Integer.MAX_VALUE}) {
            check.due("feed(0, " + n + ")", x.feed(0, n), NarrowSolver.BAD);
        }
        check.due("none came", x.count(8), 0);
    }

    private static void order(Check check) {
        NarrowSolver x = new NarrowSolver();
        // the eighth byte, and those above n, are never taken
        check.due("feed of 7", x.feed(0xEE_68_69_68_67_66_65_64L, 7), 7);
        check.due("feed of 1", x.feed(0xEE_EE_EE_65L, 1), 8);
        check.due("count(8)", x.count(8), 8);
        check.due("problem()", x.problem(), 4);
        check.waits("in order", x, 0, 100, 101, 102, 103, 104, 105, 104, 101);
        check.due("empty then", x.count(8), 0);
    }

    private static void room(Check check) {
        NarrowSolver x = new NarrowSolver();
        for (int i = 1; i <= 17; i++) {
            check.due("feed of 7", x.feed(0x64_64_64_64_64_64_64L, 7), 7 * i);
        }
        check.due("too many", x.feed(0x65_65, 2), NarrowSolver.FULL);
        check.due("none came", x.count(8), 119);
        check.due("BAD before FULL", x.feed(0, 8), NarrowSolver.BAD);
        check.due("the last", x.feed(0x66, 1), 120);
        check.due("one too many", x.feed(0x65, 1), NarrowSolver.FULL);
        check.due("BAD before FULL", x.feed(0, 0), NarrowSolver.BAD);
        check.due("problem() of 120", x.problem(), 60);
        check.due("SIZE", x.waiting(0, 1), 130);
        check.due("the last but one", x.waiting(0, 121), 100);
        check.due("the last", x.waiting(0, 122), 102);
        check.due("behind", x.waiting(0, 123), NarrowSolver.NONE);
    }

    private static void signs(Check check) {
        NarrowSolver x = new NarrowSolver();
        x.symbol(true, 1);
        for (int n = 1; n <= 7; n++) {
            check.due("feed(-1, " + n + ")", x.feed(-1L, n), n);
            check.due("255 is neither symbol nor variable", x.rule(), NarrowSolver.ODD);
        }
        check.due("feed(MIN_VALUE, 7)", x.feed(Long.MIN_VALUE, 7), 7);
        check.due("all 0: a term that has no end", x.rule(), NarrowSolver.SHORT);
    }
}
