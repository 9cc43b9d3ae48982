/** Promise 11: what is told of the problems of the row. */
public final class WaitingTest {
    private static final int Z = Programs.Z, S = Programs.S, PLUS = Programs.PLUS;

    public static void main(String[] args) {
        Check check = new Check();
        NarrowSolver x = Programs.numbers();
        wrong(check, x, 0);
        Check.problem(x, PLUS, 100, 101, S, 102, 103, Z);
        check.due("EQUATIONS", x.waiting(0, 0), 2);
        check.due("SIZE", x.waiting(0, 1), 17);
        check.due("FRESH", x.waiting(0, 2), 10);
        check.waits("as written", x, 0, PLUS, 100, 101, S, 102, 103, Z);
        check.due("not the ANSWER", x.waiting(0, 3 + 8), NarrowSolver.NONE);
        wrong(check, x, 1);
        x.solve(1);
        check.waits("first", x, 0, PLUS, Z, 101, S, 102, 103, Z);
        check.waits("second", x, 1, PLUS, S, 110, 101, S, 102, 103, Z);
        check.due("SIZE counts the ANSWER", x.waiting(0, 1), 17);
        check.due("SIZE counts what is bound there", x.waiting(1, 1), 19);
        check.due("FRESH", x.waiting(1, 2), 11);
        wrong(check, x, 2);
        x.solve(2);
        check.due("SIZE after a rule", x.waiting(0, 1), 15);
        check.waits("as first again", x, 0, 101, S, 102, 103, Z);
        x.solve(1);
        check.waits("behind", x, 1, 110, 102, 103, Z);
        check.due("SIZE", x.waiting(1, 1), 15);
        x.solve(2000);
        Check.problem(x, 100, 101);
        x.solve(1);
        wrong(check, x, 0);
        longWay(check);
        check.end();
    }

    private static void wrong(Check check, NarrowSolver x, int size) {
        for (int what : new int[] {0, 1, 2, 3, Integer.MAX_VALUE}) {
            for (int i : new int[] {-1, size, size + 1, 40, Integer.MIN_VALUE, Integer.MAX_VALUE}) {
                check.due("waiting(" + i + ", " + what + ")", x.waiting(i, what), NarrowSolver.NONE);
            }
        }
        for (int what : new int[] {-1, Integer.MIN_VALUE}) {
            check.due("waiting(0, " + what + ")", x.waiting(0, what), NarrowSolver.BAD);
            check.due("waiting(-1, " + what + ")", x.waiting(-1, what), NarrowSolver.BAD);
            check.due("waiting(99, " + what + ")", x.waiting(99, what), NarrowSolver.BAD);
        }
        if (size > 0) {
            check.due("far behind the numbers", x.waiting(0, Integer.MAX_VALUE), NarrowSolver.NONE);
        }
    }

    /** The row goes round more often than it has room: the numbering is by age all the time. */
    private static void longWay(Check check) {
        NarrowSolver x = Programs.twenty();
        for (int c = 0; c < 10; c++) {
            Check.rule(x, 21, c, 21, c);
        }
        Check.problem(x, 21, 100, 0);
        x.solve(1);
        for (int i = 0; i < 57; i++) {
            x.solve(1);
            check.waits("the oldest", x, 0, 21, (i + 1) % 10, 0);
            check.waits("the newest", x, 9, 21, i % 10, 0);
        }
        check.due("ten wait", x.count(2), 10);
    }
}
