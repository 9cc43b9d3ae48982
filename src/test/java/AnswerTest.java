/** Promise 9: the terms of a solution, number by number. */
public final class AnswerTest {
    private static final int Z = Programs.Z, S = Programs.S, CONS = Programs.CONS, PLUS = Programs.PLUS;
    private static final int NONE = NarrowSolver.NONE;
    private static final int[] OUT = {-1, -2, Integer.MIN_VALUE, Integer.MAX_VALUE};
    private final Check check = new Check();

    public static void main(String[] args) {
        AnswerTest test = new AnswerTest();
        test.ordinary();
        test.whichSolution();
        test.lastOf30Solutions();
        test.whichUnknown();
        test.whichNumber();
        test.longestTower();
        test.noSolution();
        test.several();
        test.freshVariableLeft();
        test.check.end();
    }

    private static NarrowSolver solved() {
        NarrowSolver x = Programs.numbers();
        Check.problem(x, 100, CONS, S, 101, 102, 109, CONS, 100, 103, 102, Z);
        x.solve(100);
        return x;
    }

    private void ordinary() {
        NarrowSolver x = solved();
        check.due("one SOLUTION", x.solutions(), 1);
        check.answers("first", x, 0, 0, CONS, S, 101, Z);
        check.answers("second", x, 0, 1, 101);
        check.answers("third", x, 0, 2, Z);
        check.answers("free", x, 0, 3, 103);
        check.answers("never told", x, 0, 8, 108);
        check.answers("last", x, 0, 9, CONS, CONS, S, 101, Z, 103);
    }

    private void whichSolution() {
        NarrowSolver x = solved();
        check.due("SOLUTION 0", x.answer(0, 0, 0), CONS);
        check.due("SOLUTION 1", x.answer(1, 0, 0), NONE);
        for (int i : OUT) {
            check.due("SOLUTION " + i, x.answer(i, 0, 0), NONE);
        }
        Check.problem(x, PLUS, 100, 101, S, Z);
        x.solve(2000);
        check.due("SOLUTION 1 of two", x.answer(1, 0, 0), S);
        check.due("SOLUTION 2 of two", x.answer(2, 0, 0), NONE);
    }

    private void lastOf30Solutions() {
        NarrowSolver x = Programs.full();
        check.due("SOLUTION -1", x.answer(-1, 1, 0), NONE);
        check.answers("SOLUTION 0", x, 0, 1, Z);
        check.answers("SOLUTION 28", x, 28, 1, Programs.tower(29));
        check.answers("SOLUTION 29", x, 29, 1, Programs.tower(30));
        for (int i = 30; i < 42; i++) {
            check.due("SOLUTION " + i, x.answer(i, 1, 0), NONE);
        }
    }

    private void whichUnknown() {
        NarrowSolver x = solved();
        check.due("UNKNOWN 0", x.answer(0, 0, 0), CONS);
        check.due("UNKNOWN 9", x.answer(0, 9, 0), CONS);
        check.due("UNKNOWN 10", x.answer(0, 10, 0), NONE);
        check.due("UNKNOWN 11", x.answer(0, 11, 0), NONE);
        for (int u : OUT) {
            check.due("UNKNOWN " + u, x.answer(0, u, 0), NONE);
        }
    }

    /** Neither the number before a term nor the one behind it is told, which are those of its neighbours. */
    private void whichNumber() {
        NarrowSolver x = solved();
        int[] lengths = {4, 1, 1, 1, 1, 1, 1, 1, 1, 6};
        for (int u = 0; u < 10; u++) {
            check.due("number -1 of " + u, x.answer(0, u, -1), NONE);
            check.due("number 0 of " + u, x.answer(0, u, 0) == NONE ? 0 : 1, 1);
            check.due("the last number of " + u, x.answer(0, u, lengths[u] - 1) == NONE ? 0 : 1, 1);
            check.due("the one behind it of " + u, x.answer(0, u, lengths[u]), NONE);
            for (int k : OUT) {
                check.due("number " + k + " of " + u, x.answer(0, u, k), NONE);
            }
        }
        for (int o : OUT) {
            check.due("nothing of it is there", x.answer(o, o, o), NONE);
        }
    }

    /** Each S of it needs a fresh variable, and of these there are 71: 10 .. 80. */
    private void longestTower() {
        for (int unknown : new int[] {0, 9}) {
            NarrowSolver x = Programs.numbers();
            Check.problem(x, Programs.join(Programs.of(100 + unknown), Programs.tower(72)));
            x.solve(2000);
            check.due("71 S, and Z", x.solutions(), 1);
            check.answers("71 S, and Z", x, 0, unknown, Programs.tower(72));
            check.due("number 300", x.answer(0, unknown, 300), NONE);
            Check.problem(x, Programs.join(Programs.of(100 + unknown), Programs.tower(73)));
            x.solve(2000);
            check.due("72 S, and Z", x.answer(0, unknown, 0), NONE);
        }
    }

    private void noSolution() {
        NarrowSolver x = new NarrowSolver();
        check.due("new", x.answer(0, 0, 0), NONE);
        Check.problem(x, 100, 101);
        check.due("none while it waits", x.answer(0, 0, 0), NONE);
        x.solve(1);
        check.due("then there is one", x.answer(0, 0, 0), 101);
        Check.problem(x, 100, 101);
        check.due("none is left by the next problem", x.answer(0, 0, 0), NONE);
    }

    /** x + y = 3 has four solutions, in the order in which the row comes to them. */
    private void several() {
        NarrowSolver x = Programs.numbers();
        Check.problem(x, PLUS, 100, 101, S, S, S, Z);
        x.solve(2000);
        check.due("four", x.solutions(), 4);
        for (int i = 0; i < 4; i++) {
            check.answers("x of " + i, x, i, 0, Programs.tower(i + 1));
            check.answers("y of " + i, x, i, 1, Programs.tower(4 - i));
        }
    }

    /** A fresh variable that is left in an answer is written as it is numbered. */
    private void freshVariableLeft() {
        NarrowSolver x = Programs.numbers();
        Check.rule(x, Programs.IDLE, CONS, 100, 101, 101);
        Check.problem(x, Programs.IDLE, 104, S, 105);
        x.solve(2000);
        check.answers("with fresh ones", x, 0, 4, CONS, 110, S, 105);
    }
}
