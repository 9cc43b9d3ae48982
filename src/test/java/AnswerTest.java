/** Promise 9: the terms of a solution, number by number. */
public final class AnswerTest {
    private static final int Z = Programs.Z, S = Programs.S, CONS = Programs.CONS, PLUS = Programs.PLUS;

    public static void main(String[] args) {
        Check check = new Check();
        NarrowSolver x = Programs.numbers();
        Check.problem(x, 100, CONS, S, 101, 102, 109, CONS, 100, 103, 102, Z);
        check.due("none while it waits", x.answer(0, 0, 0), NarrowSolver.NONE);
        x.solve(100);
        check.due("one SOLUTION", x.solutions(), 1);
        check.answers("first", x, 0, 0, CONS, S, 101, Z);
        check.answers("second", x, 0, 1, 101);
        check.answers("third", x, 0, 2, Z);
        check.answers("free", x, 0, 3, 103);
        check.answers("never told", x, 0, 8, 108);
        check.answers("last", x, 0, 9, CONS, CONS, S, 101, Z, 103);
        wrong(check, x);
        several(check);
        withFunction(check);
        check.end();
    }

    private static void wrong(Check check, NarrowSolver x) {
        int[] out = {-1, Integer.MIN_VALUE, Integer.MAX_VALUE};
        for (int o : out) {
            check.due("no such SOLUTION", x.answer(o, 0, 0), NarrowSolver.NONE);
            check.due("no such UNKNOWN", x.answer(0, o, 0), NarrowSolver.NONE);
            check.due("no such number", x.answer(0, 0, o), NarrowSolver.NONE);
            check.due("no such number of a later UNKNOWN", x.answer(0, 3, o), NarrowSolver.NONE);
            check.due("none at all", x.answer(o, o, o), NarrowSolver.NONE);
        }
        check.due("only one SOLUTION", x.answer(1, 0, 0), NarrowSolver.NONE);
        check.due("only ten UNKNOWNS", x.answer(0, 10, 0), NarrowSolver.NONE);
    }

    /** x + y = 3 has four solutions, in the order in which the row comes to them. */
    private static void several(Check check) {
        NarrowSolver x = Programs.numbers();
        Check.problem(x, PLUS, 100, 101, S, S, S, Z);
        x.solve(2000);
        check.due("four", x.solutions(), 4);
        for (int i = 0; i < 4; i++) {
            check.answers("x of " + i, x, i, 0, Programs.tower(i + 1));
            check.answers("y of " + i, x, i, 1, Programs.tower(4 - i));
        }
    }

    /** A fresh variable that is left in an answer is written as it is numbered. */
    private static void withFunction(Check check) {
        NarrowSolver x = Programs.numbers();
        Check.rule(x, Programs.IDLE, CONS, 100, 101, 101);
        Check.problem(x, Programs.IDLE, 104, S, 105);
        x.solve(2000);
        check.answers("with fresh ones", x, 0, 4, CONS, 110, S, 105);
    }
}
