/** Promise 11: what is told of the problems of the row. */
public final class WaitingTest {
    private static final int Z = Programs.Z, S = Programs.S, PLUS = Programs.PLUS;
    private static final int NONE = NarrowSolver.NONE, BAD = NarrowSolver.BAD;
    private final Check check = new Check();

    public static void main(String[] args) {
        WaitingTest test = new WaitingTest();
        test.ordinary();
        test.whichProblem();
        test.lastOf40Problems();
        test.whichWhat();
        test.longestProblem();
        test.badBeforeNone();
        test.longWay();
        test.check.end();
    }

    private void ordinary() {
        NarrowSolver x = Programs.numbers();
        Check.problem(x, PLUS, 100, 101, S, 102, 103, Z);
        check.due("EQUATIONS", x.waiting(0, 0), 2);
        check.due("SIZE", x.waiting(0, 1), 17);
        check.due("FRESH", x.waiting(0, 2), 10);
        check.waits("as written", x, 0, PLUS, 100, 101, S, 102, 103, Z);
        x.solve(1);
        check.waits("first", x, 0, PLUS, Z, 101, S, 102, 103, Z);
        check.waits("second", x, 1, PLUS, S, 110, 101, S, 102, 103, Z);
        check.due("SIZE counts the ANSWER", x.waiting(0, 1), 17);
        check.due("SIZE counts what is bound there", x.waiting(1, 1), 19);
        check.due("FRESH", x.waiting(1, 2), 11);
        x.solve(2);
        check.due("SIZE after a rule", x.waiting(0, 1), 15);
        check.waits("as first again", x, 0, 101, S, 102, 103, Z);
        x.solve(1);
        check.waits("behind", x, 1, 110, 102, 103, Z);
        check.due("SIZE", x.waiting(1, 1), 15);
    }

    private void noProblem(NarrowSolver x, int i) {
        for (int what : new int[] {0, 1, 2, 3, 4, Integer.MAX_VALUE}) {
            check.due("waiting(" + i + ", " + what + ")", x.waiting(i, what), NONE);
        }
    }

    private void noProblemBut(NarrowSolver x, int size) {
        for (int i : new int[] {-1, -2, size, size + 1, Integer.MIN_VALUE, Integer.MAX_VALUE}) {
            noProblem(x, i);
        }
    }

    private void whichProblem() {
        NarrowSolver x = Programs.numbers();
        noProblemBut(x, 0);
        Check.problem(x, PLUS, 100, 101, S, Z);
        noProblemBut(x, 1);
        check.due("PROBLEM 0 of one", x.waiting(0, 0), 1);
        x.solve(1);
        noProblemBut(x, 2);
        check.due("PROBLEM 1 of two", x.waiting(1, 0), 1);
        x.solve(2000);
        noProblemBut(x, 0);
        x.problem();
        noProblemBut(x, 0);
    }

    private void lastOf40Problems() {
        NarrowSolver x = Programs.full();
        check.due("PROBLEM 0", x.waiting(0, 0), 1);
        check.due("PROBLEM 38", x.waiting(38, 0), 1);
        check.due("PROBLEM 39", x.waiting(39, 0), 1);
        noProblemBut(x, 40);
        noProblem(x, 79);
        noProblem(x, 80);
    }

    private void whichWhat() {
        NarrowSolver x = Programs.numbers();
        Check.problem(x, 100, 101, Z, 103);
        int[] due = {BAD, 2, 14, 10, 100, 101, Z, 103, NONE, NONE};
        for (int what = -1; what <= 8; what++) {
            check.due("waiting(0, " + what + ")", x.waiting(0, what), due[what + 1]);
        }
        for (int what = 7; what < 40; what++) {
            check.due("nothing of the ANSWER: " + what, x.waiting(0, what), NONE);
        }
        check.due("the least what", x.waiting(0, Integer.MIN_VALUE), BAD);
        check.due("the greatest what", x.waiting(0, Integer.MAX_VALUE), NONE);
    }

    /** A SIZE of 300, of which 290 are in the equations. */
    private void longestProblem() {
        NarrowSolver x = Programs.numbers();
        Check.rule(x, Programs.IDLE, 100, Programs.TRIO, 100, 100, 100);
        Check.problem(x, Programs.join(Programs.of(Programs.IDLE), Programs.tower(96), Programs.of(Z)));
        x.solve(1);
        check.due("SIZE", x.waiting(0, 1), 300);
        check.due("the first number", x.waiting(0, 3), Programs.TRIO);
        check.due("the last number but one", x.waiting(0, 3 + 288), Z);
        check.due("the last number but two", x.waiting(0, 3 + 287), S);
        check.due("the last number", x.waiting(0, 3 + 289), Z);
        for (int what = 3 + 290; what < 310; what++) {
            check.due("behind it: " + what, x.waiting(0, what), NONE);
        }
    }

    private void badBeforeNone() {
        NarrowSolver x = Programs.numbers();
        for (int round = 0; round < 2; round++) {
            for (int i : new int[] {-1, 0, 1, 40, Integer.MIN_VALUE, Integer.MAX_VALUE}) {
                check.due("waiting(" + i + ", -1)", x.waiting(i, -1), BAD);
                check.due("waiting(" + i + ", MIN_VALUE)", x.waiting(i, Integer.MIN_VALUE), BAD);
            }
            Check.problem(x, 100, 101);
        }
    }

    /** The row goes round more often than it has room: the numbering is by age all the time. */
    private void longWay() {
        NarrowSolver x = Programs.twenty();
        for (int c = 0; c < 10; c++) {
            Check.rule(x, 21, c, 21, c);
        }
        Check.problem(x, 21, 100, 0);
        x.solve(1);
        for (int i = 0; i < 85; i++) {
            x.solve(1);
            check.due("the oldest", x.waiting(0, 4), (i + 1) % 10);
            check.due("the newest", x.waiting(9, 4), i % 10);
            check.due("none behind it", x.waiting(10, 4), NONE);
        }
        check.due("ten wait", x.count(2), 10);
    }
}
