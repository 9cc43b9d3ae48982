/** Promise 7: how many steps are done, and the steps, one kind after the other; SolvingEdgesTest has their limits. */
public final class SolveTest {
    private static final int Z = Programs.Z, S = Programs.S, NIL = Programs.NIL, CONS = Programs.CONS, TRIO = Programs.TRIO;
    private static final int PLUS = Programs.PLUS, IDLE = Programs.IDLE;
    private final Check check = new Check();
    private NarrowSolver x;

    public static void main(String[] args) {
        SolveTest test = new SolveTest();
        test.stepsBelowOne();
        test.stepsAbove2000();
        test.oneStep();
        test.steps2000();
        test.noProblemWaits();
        test.variables();
        test.variableAndConstructor();
        test.constructors();
        test.working();
        test.narrowing();
        test.order();
        test.check.end();
    }

    /** The state after one step of a new problem. */
    private void step(String about, int... numbers) {
        x = Programs.numbers();
        Check.problem(x, numbers);
        check.due(about + ": solve(1)", x.solve(1), 1);
        check.due(about + ": STEPS", x.count(4), 1);
    }

    private void fails(String about, int... numbers) {
        step(about, numbers);
        check.due(about + ": FAILED", x.count(5), 1);
        check.due(about + ": nothing waits", x.count(2), 0);
        check.due(about + ": nothing is solved", x.solutions(), 0);
        check.due(about + ": nothing is LOST", x.count(7), 0);
    }

    /** A problem that goes on for ever, a rule in each step. */
    private void endless() {
        x = Programs.numbers();
        Check.rule(x, IDLE, 100, IDLE, 100);
        Check.problem(x, IDLE, 100, Z);
    }

    private void stepsBelowOne() {
        endless();
        for (int n : new int[] {0, -1, -2000, Integer.MIN_VALUE}) {
            check.due("solve(" + n + ")", x.solve(n), NarrowSolver.BAD);
            check.due("no STEP was done", x.count(4), 0);
        }
    }

    private void stepsAbove2000() {
        endless();
        for (int n : new int[] {2001, 2002, Integer.MAX_VALUE}) {
            check.due("solve(" + n + ")", x.solve(n), NarrowSolver.BAD);
            check.due("no STEP was done", x.count(4), 0);
        }
    }

    private void oneStep() {
        endless();
        check.due("solve(1)", x.solve(1), 1);
        check.due("STEPS", x.count(4), 1);
        check.due("solve(1)", x.solve(1), 1);
        check.due("STEPS", x.count(4), 2);
    }

    private void steps2000() {
        endless();
        check.due("solve(1999)", x.solve(1999), 1999);
        check.due("STEPS", x.count(4), 1999);
        check.due("solve(2000)", x.solve(2000), 2000);
        check.due("STEPS", x.count(4), 3999);
        check.due("solve(2000)", x.solve(2000), 2000);
        check.due("STEPS go above 2000 and on", x.count(4), 5999);
        check.due("RULES used", x.count(6), 5999);
    }

    private void noProblemWaits() {
        x = new NarrowSolver();
        check.due("solve(1) of a new one", x.solve(1), 0);
        check.due("solve(2000) of a new one", x.solve(2000), 0);
        check.due("solve(0) is BAD all the same", x.solve(0), NarrowSolver.BAD);
        check.due("solve(2001) is BAD all the same", x.solve(2001), NarrowSolver.BAD);
        check.due("STEPS", x.count(4), 0);
        x.problem();
        check.due("a SOLUTION at first", x.solve(2000), 0);
        x = Programs.numbers();
        Check.problem(x, Z, Z, S, Z, S, Z);
        check.due("just as many as there are", x.solve(3), 3);
        check.due("then none", x.solve(1), 0);
        Check.problem(x, Z, Z, S, Z, S, Z);
        check.due("more than there are", x.solve(4), 3);
        Check.problem(x, Z, NIL);
        check.due("after one that FAILS", x.solve(2000), 1);
        check.due("STEPS", x.count(4), 1);
    }

    private void variables() {
        step("the same variable", 103, 103, 103, 104);
        check.due("FRESH", x.waiting(0, 2), 10);
        check.waits("the equation goes", x, 0, 103, 104);
        x.solve(1);
        check.answers("bound to the other", x, 0, 3, 104);
        check.answers("which stays", x, 0, 4, 104);
        step("two variables", 100, 101, CONS, 100, 101, PLUS, 100, Z);
        check.waits("in all equations", x, 0, CONS, 101, 101, PLUS, 101, Z);
        check.due("EQUATIONS", x.waiting(0, 0), 1);
        check.due("SIZE", x.waiting(0, 1), 16);
    }

    private void variableAndConstructor() {
        step("variable, constructor", 100, CONS, 101, Z, 100, 102);
        check.waits("fresh ones at the left", x, 0, 110, 101, 111, Z, CONS, 110, 111, 102);
        check.due("EQUATIONS", x.waiting(0, 0), 3);
        check.due("FRESH", x.waiting(0, 2), 12);
        check.due("SIZE", x.waiting(0, 1), 8 + 12);
        x.solve(2);
        check.waits("after two more", x, 0, CONS, 101, Z, 102);
        step("constructor, variable", CONS, 101, Z, 100, 102, 100);
        check.waits("fresh ones at the right", x, 0, 101, 110, Z, 111, 102, CONS, 110, 111);
        step("variable, constructor without arguments", 105, NIL);
        check.answers("a SOLUTION", x, 0, 5, NIL);
        step("constructor without arguments, variable", NIL, 105);
        check.answers("a SOLUTION", x, 0, 5, NIL);
        step("constructor of three", 100, TRIO, 101, 102, 103);
        check.waits("first argument's first", x, 0, 110, 101, 111, 102, 112, 103);
    }

    private void constructors() {
        fails("different ones", Z, NIL);
        fails("different ones", S, Z, CONS, Z, Z);
        step("the same", CONS, S, Z, 100, CONS, 101, NIL, 102, 103);
        check.waits("in front of the others", x, 0, S, Z, 101, 100, NIL, 102, 103);
        check.due("EQUATIONS", x.waiting(0, 0), 3);
        check.due("SIZE", x.waiting(0, 1), 17);
        step("the same without arguments", NIL, NIL);
        check.due("a SOLUTION", x.solutions(), 1);
        step("functions within are left alone", S, IDLE, Z, S, IDLE, Z);
        check.waits("arguments", x, 0, IDLE, Z, IDLE, Z);
    }

    private void working() {
        step("left side", PLUS, S, IDLE, 100, CONS, 101, Z, PLUS, Z, Z);
        check.waits("becomes the right side of the rule", x, 0, S, PLUS, IDLE, 100, CONS, 101, Z, PLUS, Z, Z);
        check.due("a RULE was used", x.count(6), 1);
        step("right side", S, Z, PLUS, Z, S, Z);
        check.waits("worked on", x, 0, S, Z, S, Z);
        step("right side, left one a variable", 100, PLUS, Z, 100);
        check.waits("worked on before it is bound", x, 0, 100, 100);
        step("a function at the place", PLUS, PLUS, PLUS, Z, S, Z, 100, 101, Z);
        check.waits("the innermost", x, 0, PLUS, PLUS, S, Z, 100, 101, Z);
        fails("without a tree", IDLE, Z, Z);
        fails("without a tree, at the right", Z, IDLE, Z);
        fails("without a tree, at a place", PLUS, IDLE, 100, Z, Z);
        fails("a constructor that the branch has not", PLUS, NIL, Z, Z);
        check.due("no RULE was used", x.count(6), 0);
        x = Programs.numbers();
        Check.rule(x, IDLE, CONS, 104, S, 107, CONS, CONS, 107, 104, 107);
        Check.problem(x, Z, IDLE, CONS, NIL, S, PLUS, 100, 101, 100, 101);
        x.solve(1);
        check.waits("what stands for the variables", x, 0, Z, CONS, CONS, PLUS, 100, 101, NIL, PLUS, 100, 101, 100, 101);
    }

    private void narrowing() {
        step("a variable", PLUS, 100, 101, 100, CONS, 100, 102, NIL);
        check.due("a problem for each constructor", x.count(2), 2);
        check.due("no RULE was used", x.count(6), 0);
        check.waits("the first", x, 0, PLUS, Z, 101, Z, CONS, Z, 102, NIL);
        check.waits("the second", x, 1, PLUS, S, 110, 101, S, 110, CONS, S, 110, 102, NIL);
        check.due("FRESH of the first", x.waiting(0, 2), 10);
        check.due("FRESH of the second", x.waiting(1, 2), 11);
        check.due("SIZE of the first", x.waiting(0, 1), 18);
        check.due("SIZE of the second", x.waiting(1, 1), 22);
        step("a variable of an inner function", S, Z, PLUS, PLUS, 105, Z, 106);
        check.waits("the second", x, 1, S, Z, PLUS, PLUS, S, 110, Z, 106);
        x = Programs.numbers();
        Check.rule(x, IDLE, TRIO, 100, CONS, 101, 102, 103, 102);
        Check.problem(x, IDLE, 100, 101);
        x.solve(2);
        check.waits("one place after the other", x, 0, IDLE, TRIO, 110, CONS, 113, 114, 112, 101);
        check.due("FRESH", x.waiting(0, 2), 15);
    }

    /** The first goes, what comes of it is put behind all others. */
    private void order() {
        x = Programs.numbers();
        Check.problem(x, PLUS, 100, 101, S, Z);
        x.solve(1);
        x.solve(1);
        check.waits("the second is the first now", x, 0, PLUS, S, 110, 101, S, Z);
        check.waits("behind it", x, 1, 101, S, Z);
        x.solve(1);
        check.waits("and again", x, 0, 101, S, Z);
        check.waits("and again", x, 1, S, PLUS, 110, 101, S, Z);
        check.due("all", x.solve(2000), 8);
        check.answers("0 + 1", x, 0, 0, Z);
        check.answers("0 + 1", x, 0, 1, S, Z);
        check.answers("1 + 0", x, 1, 0, S, Z);
        check.answers("1 + 0", x, 1, 1, Z);
        check.due("both ways", x.solutions(), 2);
        check.due("FAILED", x.count(5), 1);
    }
}
