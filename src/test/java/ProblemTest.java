import java.util.Arrays;

/** Promise 6: a tape becomes a problem, or is ODD or SHORT and changes nothing but the tape. */
public final class ProblemTest {
    private static final int Z = Programs.Z, S = Programs.S, CONS = Programs.CONS, PLUS = Programs.PLUS, IDLE = Programs.IDLE;
    private final Check check = new Check();

    public static void main(String[] args) {
        ProblemTest test = new ProblemTest();
        test.ordinary();
        test.nothingBeforeIsLeft();
        test.emptyTape();
        test.emptyTapeAfterAnother();
        test.oddNumberOfTerms();
        test.whatStaysAfterOdd();
        test.whatStaysAfterShort();
        test.whatStaysOfAFullOne();
        test.check.end();
    }

    private void ordinary() {
        NarrowSolver x = Programs.numbers();
        check.due("problem()", Check.problem(x, PLUS, 100, IDLE, 109, S, Z, 100, Z), 2);
        check.due("EQUATIONS", x.waiting(0, 0), 2);
        check.due("SIZE", x.waiting(0, 1), 18);
        check.due("FRESH", x.waiting(0, 2), 10);
        check.waits("as written", x, 0, PLUS, 100, IDLE, 109, S, Z, 100, Z);
        check.due("tape", x.count(8), 0);
        check.due("nothing is LONG", Check.problem(x, Z, Z, Z, Z, Z, Z), 3);
    }

    private void nothingBeforeIsLeft() {
        NarrowSolver x = Programs.numbers();
        Check.problem(x, PLUS, 100, 101, S, Z);
        x.solve(1);
        check.due("another", Check.problem(x, 100, 101), 1);
        check.due("none before is left", x.count(2), 1);
        check.waits("the new one", x, 0, 100, 101);
        check.due("STEPS begin again", x.count(4), 0);
        x.solve(1);
        check.due("one SOLUTION", x.solutions(), 1);
        check.due("a third", Check.problem(x, Z, S, 100), 1);
        check.due("no SOLUTION is left", x.solutions(), 0);
        check.due("no answer is left", x.answer(0, 0, 0), NarrowSolver.NONE);
        x.solve(1);
        check.due("it FAILED", x.count(5), 1);
        Check.problem(x, PLUS, Z, Z, Z);
        check.due("FAILED begins again", x.count(5), 0);
        x.solve(1);
        check.due("a RULE was used", x.count(6), 1);
        Check.problem(x, PLUS, Z, Z, Z);
        check.due("RULES used begin again", x.count(6), 0);
        x = Programs.full();
        x.rule();
        check.due("after a full one", Check.problem(x, 100, 101), 1);
        int[] due = {24, 40, 1, 0, 0, 0, 0, 0, 0};
        for (int what = 0; what <= 8; what++) {
            check.due("after a full one: count(" + what + ")", x.count(what), due[what]);
        }
        check.due("FRESH variables begin with 10", x.waiting(0, 2), 10);
    }

    private void emptyTape() {
        NarrowSolver x = new NarrowSolver();
        check.due("problem() of nothing", x.problem(), 0);
        check.due("a SOLUTION at once", x.solutions(), 1);
        check.due("none waits", x.count(2), 0);
        for (int u = 0; u < 10; u++) {
            check.answers("each UNKNOWN itself", x, 0, u, 100 + u);
        }
        check.due("problem() of nothing again", x.problem(), 0);
        check.due("none before is left", x.solutions(), 1);
        check.due("no STEP", x.solve(5), 0);
    }

    private void emptyTapeAfterAnother() {
        NarrowSolver x = Programs.full();
        check.due("a rule takes the tape away", x.rule(), NarrowSolver.SHORT);
        check.due("problem() of nothing", x.problem(), 0);
        int[] due = {24, 40, 0, 1, 0, 0, 0, 0, 0};
        for (int what = 0; what <= 8; what++) {
            check.due("after a full one: count(" + what + ")", x.count(what), due[what]);
        }
        check.answers("each UNKNOWN itself", x, 0, 1, 101);
    }

    private void oddNumberOfTerms() {
        for (int terms = 1; terms <= 120; terms++) {
            NarrowSolver x = new NarrowSolver();
            int[] numbers = new int[terms];
            Arrays.fill(numbers, 100);
            check.due("problem() of " + terms + " terms", Check.problem(x, numbers), terms % 2 == 0 ? terms / 2 : NarrowSolver.SHORT);
            check.due("tape", x.count(8), 0);
            check.due("what waits", x.count(2), terms % 2 == 0 ? 1 : 0);
        }
        NarrowSolver x = Programs.numbers();
        check.due("one long term", Check.problem(x, Programs.tower(120)), NarrowSolver.SHORT);
        check.due("two of them", Check.problem(x, Programs.join(Programs.tower(60), Programs.tower(60))), 1);
        check.due("three of them", Check.problem(x, Programs.join(Programs.tower(40), Programs.tower(40), Programs.tower(40))), NarrowSolver.SHORT);
    }

    private void whatStaysAfterOdd() {
        int[][] wrong = {{110, Z}, {Z, 7}, {Z, Z, 99}, {100, 255}, {S, 110}, {CONS, Z, 24}, {110}, {255, 255}, {Z, Z, Z, Z, 128}};
        for (int[] numbers : wrong) {
            keeps(NarrowSolver.ODD, numbers);
        }
        // the odd number stands before the end of the tape, which would be too short
        keeps(NarrowSolver.ODD, Z, Z, 200);
        keeps(NarrowSolver.ODD, Z, CONS, 110);
    }

    private void whatStaysAfterShort() {
        int[][] brief = {{Z}, {100, 100, 100}, {S}, {Z, S}, {Z, CONS, Z}, {PLUS, Z, Z}, {Z, Z, IDLE}, {Z, Z, Z, Z, PLUS, Z}};
        for (int[] numbers : brief) {
            keeps(NarrowSolver.SHORT, numbers);
        }
    }

    private void keeps(int fault, int... numbers) {
        String about = "problem() of " + Arrays.toString(numbers);
        NarrowSolver x = Programs.numbers();
        Check.problem(x, PLUS, 100, 101, S, Z);
        x.solve(4);
        int[] before = new int[8];
        for (int what = 0; what < 8; what++) {
            before[what] = x.count(what);
        }
        check.due(about, Check.problem(x, numbers), fault);
        check.due(about + ": tape", x.count(8), 0);
        for (int what = 0; what < 8; what++) {
            check.due(about + ": count(" + what + ") stays", x.count(what), before[what]);
        }
        check.waits(about, x, 0, S, PLUS, 110, 101, S, Z);
        check.waits(about, x, 1, 110, Z);
        check.due(about + ": the rest is solved as before", x.solve(2000), 7);
        check.due(about + ": the rest is solved as before", x.solutions(), 2);
    }

    private void whatStaysOfAFullOne() {
        NarrowSolver x = Programs.full();
        check.due("problem() of one term of 120", x.problem(), NarrowSolver.SHORT);
        for (int what = 0; what < 8; what++) {
            check.due("SHORT: count(" + what + ") stays", x.count(what), Programs.FULL_COUNTS[what]);
        }
        check.due("problem() of 255", Check.problem(x, 255), NarrowSolver.ODD);
        for (int what = 0; what < 8; what++) {
            check.due("ODD: count(" + what + ") stays", x.count(what), Programs.FULL_COUNTS[what]);
        }
        check.due("the tape is empty", x.count(8), 0);
        check.answers("the last SOLUTION stays", x, 29, 1, Programs.tower(30));
        check.due("the last PROBLEM stays", x.waiting(39, 0), 1);
    }
}
