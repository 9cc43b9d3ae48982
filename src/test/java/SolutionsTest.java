/** Promise 8: how many solutions there are, at most 30. */
public final class SolutionsTest {
    public static void main(String[] args) {
        Check check = new Check();
        NarrowSolver x = Programs.twenty();
        check.due("none at first", x.solutions(), 0);
        Check.problem(x, 20, 100, 0);
        check.due("none yet", x.solutions(), 0);
        check.due("narrowed, and a rule for each", x.solve(21), 21);
        check.due("none yet", x.solutions(), 0);
        for (int i = 1; i <= 20; i++) {
            x.solve(1);
            check.due("one more", x.solutions(), i);
        }
        Check.problem(x, 20, 100, 0, 20, 101, 0);
        check.due("all steps", x.solve(2000), 1 + 20 + 20 + 20 + 40 + 40);
        check.due("30 at most", x.solutions(), 30);
        check.due("the same by count", x.count(3), 30);
        check.due("further ones are LOST", x.count(7), 360 + 10);
        check.answers("the last one", x, 29, 0, 9);
        check.answers("the last one", x, 29, 1, 0);
        check.answers("the 20th", x, 19, 0, 0);
        check.answers("the 20th", x, 19, 1, 19);
        check.due("none behind", x.answer(30, 0, 0), NarrowSolver.NONE);
        Check.problem(x, 20, 3, 1);
        check.due("gone with the next problem", x.solutions(), 0);
        x.solve(10);
        check.due("none by a failure", x.solutions(), 0);
        check.end();
    }
}
