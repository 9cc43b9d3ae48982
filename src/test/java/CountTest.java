/** Promise 12: all that is counted. */
public final class CountTest {
    private static final int Z = Programs.Z, S = Programs.S, NIL = Programs.NIL, CONS = Programs.CONS, PLUS = Programs.PLUS;
    private final Check check = new Check();

    public static void main(String[] args) {
        CountTest test = new CountTest();
        test.whichWhat();
        test.each();
        test.fullObject();
        test.sinceProblem();
        test.check.end();
    }

    private void counts(String about, NarrowSolver x, int... want) {
        for (int what = 0; what < want.length; what++) {
            check.due(about + ": count(" + what + ")", x.count(what), want[what]);
        }
        for (int what : new int[] {-1, 9, 10, Integer.MIN_VALUE, Integer.MAX_VALUE}) {
            check.due(about + ": count(" + what + ")", x.count(what), NarrowSolver.BAD);
        }
    }

    private void whichWhat() {
        NarrowSolver x = Programs.numbers();
        Check.feed(x, 100, 101, 102);
        check.due("count(-1)", x.count(-1), NarrowSolver.BAD);
        check.due("count(0)", x.count(0), 7);
        check.due("count(8)", x.count(8), 3);
        check.due("count(9)", x.count(9), NarrowSolver.BAD);
        check.due("the least", x.count(Integer.MIN_VALUE), NarrowSolver.BAD);
        check.due("the greatest", x.count(Integer.MAX_VALUE), NarrowSolver.BAD);
    }

    private void fullObject() {
        NarrowSolver x = Programs.full();
        counts("full", x, Programs.FULL_COUNTS);
        x.symbol(false, 0);
        x.feed(0, 1);
        counts("nothing more goes in", x, Programs.FULL_COUNTS);
    }

    private void each() {
        NarrowSolver x = new NarrowSolver();
        counts("new", x, 0, 0, 0, 0, 0, 0, 0, 0, 0);
        x = Programs.numbers();
        counts("a program", x, 7, 2, 0, 0, 0, 0, 0, 0, 0);
        Check.feed(x, PLUS, 100, NIL, S);
        counts("fed", x, 7, 2, 0, 0, 0, 0, 0, 0, 4);
        Check.feed(x, CONS, Z, Z);
        check.due("problem", x.problem(), 1);
        counts("a problem", x, 7, 2, 1, 0, 0, 0, 0, 0, 0);
        x.solve(1);
        counts("narrowed", x, 7, 2, 2, 0, 1, 0, 0, 0, 0);
        x.solve(1);
        counts("by a rule", x, 7, 2, 2, 0, 2, 0, 1, 0, 0);
        x.solve(1);
        counts("by a rule", x, 7, 2, 2, 0, 3, 0, 2, 0, 0);
        x.solve(1);
        counts("NIL, S", x, 7, 2, 1, 0, 4, 1, 2, 0, 0);
        x.symbol(false, 0);
        counts("a symbol more", x, 8, 2, 1, 0, 4, 1, 2, 0, 0);
        x.solve(4);
        counts("on", x, 8, 2, 2, 0, 8, 1, 4, 0, 0);
        x.solve(5);
        counts("to the end", x, 8, 2, 0, 0, 10, 3, 4, 0, 0);
    }

    /** A faulty problem or rule leaves what was counted; the next problem begins anew. */
    private void sinceProblem() {
        NarrowSolver x = Programs.twenty();
        Check.problem(x, 20, 100, 0, 20, 101, 0);
        x.solve(2000);
        counts("much", x, 23, 20, 0, 30, 141, 0, 60, 370, 0);
        Check.problem(x, 99, 100);
        Check.problem(x, 100);
        Check.rule(x, 20, 0, 0);
        counts("faults", x, 23, 20, 0, 30, 141, 0, 60, 370, 0);
        check.due("steps that are none", x.solve(7), 0);
        check.due("steps that are BAD", x.solve(0), NarrowSolver.BAD);
        counts("no steps", x, 23, 20, 0, 30, 141, 0, 60, 370, 0);
        Check.problem(x, 0, 1);
        counts("anew", x, 23, 20, 1, 0, 0, 0, 0, 0, 0);
        x.solve(1);
        counts("a failure", x, 23, 20, 0, 0, 1, 1, 0, 0, 0);
        x.problem();
        counts("no equations", x, 23, 20, 0, 1, 0, 0, 0, 0, 0);
    }
}
