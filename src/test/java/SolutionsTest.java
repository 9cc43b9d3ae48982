/** Promise 8: how many solutions there are, at most 30. */
public final class SolutionsTest {
    private final Check check = new Check();

    public static void main(String[] args) {
        SolutionsTest test = new SolutionsTest();
        test.noneAtFirst();
        test.oneByOne();
        test.atMost30();
        test.check.end();
    }

    private void noneAtFirst() {
        NarrowSolver x = new NarrowSolver();
        check.due("new", x.solutions(), 0);
        x.problem();
        check.due("a problem without equations", x.solutions(), 1);
        Check.problem(x, 100, 100);
        check.due("one that waits", x.solutions(), 0);
        x.solve(1);
        check.due("solved", x.solutions(), 1);
    }

    private void oneByOne() {
        NarrowSolver x = Programs.twenty();
        Check.problem(x, 20, 100, 0);
        check.due("none yet", x.solutions(), 0);
        check.due("narrowed, and a rule for each", x.solve(21), 21);
        check.due("none yet", x.solutions(), 0);
        for (int i = 1; i <= 20; i++) {
            x.solve(1);
            check.due("one more", x.solutions(), i);
        }
    }

    private void atMost30() {
        NarrowSolver x = Programs.twenty();
        Check.problem(x, 20, 100, 0, 20, 101, 0);
        check.due("all but the last 11 steps", x.solve(1 + 20 + 20 + 20 + 40 + 29), 130);
        check.due("29", x.solutions(), 29);
        x.solve(1);
        check.due("30", x.solutions(), 30);
        check.due("none but problems is LOST", x.count(7), 360);
        x.solve(1);
        check.due("30 still", x.solutions(), 30);
        check.due("a 31st is LOST", x.count(7), 361);
        check.due("the last steps", x.solve(2000), 9);
        check.due("30 still", x.solutions(), 30);
        check.due("the same by count", x.count(3), 30);
        check.due("further ones are LOST", x.count(7), 360 + 10);
        check.answers("the last one", x, 29, 0, 9);
        check.answers("the last one", x, 29, 1, 0);
        check.answers("the 20th", x, 19, 0, 0);
        check.answers("the 20th", x, 19, 1, 19);
        Check.problem(x, 20, 3, 1);
        check.due("gone with the next problem", x.solutions(), 0);
        x.solve(10);
        check.due("none by a failure", x.solutions(), 0);
    }
}
