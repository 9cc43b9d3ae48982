/** Promise 6: a tape becomes a problem, or is ODD or SHORT and changes nothing but the tape. */
public final class ProblemTest {
    private static final int Z = Programs.Z, S = Programs.S, CONS = Programs.CONS, PLUS = Programs.PLUS, IDLE = Programs.IDLE;

    public static void main(String[] args) {
        Check check = new Check();
        ordinary(check);
        emptyTape(check);
        faults(check);
        check.end();
    }

    private static void ordinary(Check check) {
        NarrowSolver x = Programs.numbers();
        check.due("problem()", Check.problem(x, PLUS, 100, IDLE, 109, S, Z, 100, Z), 2);
        check.due("EQUATIONS", x.waiting(0, 0), 2);
        check.due("SIZE", x.waiting(0, 1), 18);
        check.due("FRESH", x.waiting(0, 2), 10);
        check.waits("as written", x, 0, PLUS, 100, IDLE, 109, S, Z, 100, Z);
        check.due("tape", x.count(8), 0);
        x.solve(1);
        check.due("another", Check.problem(x, 100, 101), 1);
        check.due("none before is left", x.count(2), 1);
        check.waits("the new one", x, 0, 100, 101);
        check.due("STEPS begin again", x.count(4), 0);
        x.solve(1);
        check.due("one SOLUTION", x.solutions(), 1);
        check.due("a third", Check.problem(x, Z, S, 100), 1);
        check.due("no SOLUTION is left", x.solutions(), 0);
        check.due("no answer is left", x.answer(0, 0, 0), NarrowSolver.NONE);
        x.solve(1);
        check.due("it FAILED", x.count(5), 1);
        Check.problem(x, PLUS, Z, Z, Z);
        check.due("FAILED begins again", x.count(5), 0);
        x.solve(1);
        check.due("a RULE was used", x.count(6), 1);
        Check.problem(x, PLUS, Z, Z, Z);
        check.due("RULES used begin again", x.count(6), 0);
    }

    private static void emptyTape(Check check) {
        NarrowSolver x = new NarrowSolver();
        check.due("problem() of nothing", x.problem(), 0);
        check.due("a SOLUTION at once", x.solutions(), 1);
        check.due("none waits", x.count(2), 0);
        for (int u = 0; u < 10; u++) {
            check.answers("each UNKNOWN itself", x, 0, u, 100 + u);
        }
        check.due("problem() of nothing again", x.problem(), 0);
        check.due("none before is left", x.solutions(), 1);
        check.due("no STEP", x.solve(5), 0);
    }

    private static void faults(Check check) {
        int[][] wrong = {{110, Z}, {Z, 7}, {Z, Z, 99}, {100, 255}, {S, 110}, {CONS, Z, 24}};
        int[][] brief = {{Z}, {100, 100, 100}, {S}, {Z, S}, {Z, CONS, Z}, {PLUS, Z, Z}, {Z, Z, IDLE}};
        for (int[] numbers : wrong) {
            keeps(check, NarrowSolver.ODD, numbers);
        }
        for (int[] numbers : brief) {
            keeps(check, NarrowSolver.SHORT, numbers);
        }
        // a tape of three terms whose third is odd: the odd number comes first
        keeps(check, NarrowSolver.ODD, Z, Z, 200);
    }

    private static void keeps(Check check, int fault, int... numbers) {
        String about = "problem() of " + java.util.Arrays.toString(numbers);
        NarrowSolver x = Programs.numbers();
        Check.problem(x, PLUS, 100, 101, S, Z);
        x.solve(4);
        int[] before = new int[8];
        for (int what = 0; what < 8; what++) {
            before[what] = x.count(what);
        }
        check.due(about, Check.problem(x, numbers), fault);
        check.due(about + ": tape", x.count(8), 0);
        for (int what = 0; what < 8; what++) {
            check.due(about + ": count(" + what + ") stays", x.count(what), before[what]);
        }
        check.waits(about, x, 0, S, PLUS, 110, 101, S, Z);
        check.waits(about, x, 1, 110, Z);
    }
}
