/** Promise 7: the steps, one kind after the other, and the limits of what waits. */
public final class SolveTest {
    private static final int Z = Programs.Z, S = Programs.S, NIL = Programs.NIL, CONS = Programs.CONS, TRIO = Programs.TRIO;
    private static final int PLUS = Programs.PLUS, IDLE = Programs.IDLE;
    private final Check check = new Check();
    private NarrowSolver x;

    public static void main(String[] args) {
        SolveTest test = new SolveTest();
        test.wrongNumbers();
        test.howMany();
        test.variables();
        test.variableAndConstructor();
        test.occurrence();
        test.constructors();
        test.working();
        test.narrowing();
        test.order();
        test.size();
        test.freshVariables();
        test.room();
        test.check.end();
    }

    /** The state after one step of a new problem. */
    private void step(String about, int... numbers) {
        x = Programs.numbers();
        Check.problem(x, numbers);
        check.due(about + ": solve(1)", x.solve(1), 1);
        check.due(about + ": STEPS", x.count(4), 1);
    }

    private void fails(String about, int... numbers) {
        step(about, numbers);
        check.due(about + ": FAILED", x.count(5), 1);
        check.due(about + ": nothing waits", x.count(2), 0);
        check.due(about + ": nothing is solved", x.solutions(), 0);
        check.due(about + ": nothing is LOST", x.count(7), 0);
    }

    private void wrongNumbers() {
        x = Programs.numbers();
        Check.problem(x, 100, 101);
        for (int n : new int[] {0, -1, 2001, Integer.MIN_VALUE, Integer.MAX_VALUE}) {
            check.due("solve(" + n + ")", x.solve(n), NarrowSolver.BAD);
        }
        check.due("no STEP was done", x.count(2), 1);
    }

    private void howMany() {
        x = Programs.numbers();
        check.due("without a problem", x.solve(2000), 0);
        check.due("a rule that goes on", Check.rule(x, IDLE, 100, IDLE, 100), 2);
        Check.problem(x, IDLE, 100, Z);
        check.due("solve(1)", x.solve(1), 1);
        check.due("solve(2000)", x.solve(2000), 2000);
        check.due("solve(2000)", x.solve(2000), 2000);
        check.due("STEPS", x.count(4), 4001);
        check.due("RULES used", x.count(6), 4001);
        Check.problem(x, Z, Z, S, Z, S, Z);
        check.due("as long as PROBLEMS wait", x.solve(2000), 3);
    }

    private void variables() {
        step("the same variable", 103, 103, 103, 104);
        check.due("FRESH", x.waiting(0, 2), 10);
        check.waits("the equation goes", x, 0, 103, 104);
        x.solve(1);
        check.answers("bound to the other", x, 0, 3, 104);
        check.answers("which stays", x, 0, 4, 104);
        step("two variables", 100, 101, CONS, 100, 101, PLUS, 100, Z);
        check.waits("in all equations", x, 0, CONS, 101, 101, PLUS, 101, Z);
        check.due("EQUATIONS", x.waiting(0, 0), 1);
        check.due("SIZE", x.waiting(0, 1), 16);
    }

    private void variableAndConstructor() {
        step("variable, constructor", 100, CONS, 101, Z, 100, 102);
        check.waits("fresh ones at the left", x, 0, 110, 101, 111, Z, CONS, 110, 111, 102);
        check.due("EQUATIONS", x.waiting(0, 0), 3);
        check.due("FRESH", x.waiting(0, 2), 12);
        check.due("SIZE", x.waiting(0, 1), 8 + 12);
        x.solve(2);
        check.waits("after two more", x, 0, CONS, 101, Z, 102);
        step("constructor, variable", CONS, 101, Z, 100, 102, 100);
        check.waits("fresh ones at the right", x, 0, 101, 110, Z, 111, 102, CONS, 110, 111);
        step("variable, constructor without arguments", 105, NIL);
        check.answers("a SOLUTION", x, 0, 5, NIL);
        step("constructor without arguments, variable", NIL, 105);
        check.answers("a SOLUTION", x, 0, 5, NIL);
        step("constructor of three", 100, TRIO, 101, 102, 103);
        check.waits("first argument's first", x, 0, 110, 101, 111, 102, 112, 103);
    }

    private void occurrence() {
        fails("within its own constructor", 100, S, 100);
        fails("the other way round", S, 100, 100);
        fails("deep within", 100, CONS, Z, CONS, S, 100, Z);
        fails("within a function, and beside it", 100, CONS, PLUS, 100, Z, 100);
        fails("beside a function, and within it", CONS, 100, PLUS, 100, Z, 100);
        step("within a function alone", 100, S, PLUS, 100, Z);
        check.waits("goes on", x, 0, 110, PLUS, S, 110, Z);
        step("within a function alone, the other way round", CONS, IDLE, S, 100, Z, 100);
        check.waits("goes on", x, 0, IDLE, S, CONS, 110, 111, 110, Z, 111);
        step("within two functions side by side", 100, CONS, IDLE, 100, IDLE, 100);
        check.waits("goes on", x, 0, 110, IDLE, CONS, 110, 111, 111, IDLE, CONS, 110, 111);
        step("another variable", 100, S, 101);
        check.waits("goes on", x, 0, 110, 101);
    }

    private void constructors() {
        fails("different ones", Z, NIL);
        fails("different ones", S, Z, CONS, Z, Z);
        step("the same", CONS, S, Z, 100, CONS, 101, NIL, 102, 103);
        check.waits("in front of the others", x, 0, S, Z, 101, 100, NIL, 102, 103);
        check.due("EQUATIONS", x.waiting(0, 0), 3);
        check.due("SIZE", x.waiting(0, 1), 17);
        step("the same without arguments", NIL, NIL);
        check.due("a SOLUTION", x.solutions(), 1);
        step("functions within are left alone", S, IDLE, Z, S, IDLE, Z);
        check.waits("arguments", x, 0, IDLE, Z, IDLE, Z);
    }

    private void working() {
        step("left side", PLUS, S, IDLE, 100, CONS, 101, Z, PLUS, Z, Z);
        check.waits("becomes the right side of the rule", x, 0, S, PLUS, IDLE, 100, CONS, 101, Z, PLUS, Z, Z);
        check.due("a RULE was used", x.count(6), 1);
        step("right side", S, Z, PLUS, Z, S, Z);
        check.waits("worked on", x, 0, S, Z, S, Z);
        step("right side, left one a variable", 100, PLUS, Z, 100);
        check.waits("worked on before it is bound", x, 0, 100, 100);
        step("a function at the place", PLUS, PLUS, PLUS, Z, S, Z, 100, 101, Z);
        check.waits("the innermost", x, 0, PLUS, PLUS, S, Z, 100, 101, Z);
        fails("without a tree", IDLE, Z, Z);
        fails("without a tree, at the right", Z, IDLE, Z);
        fails("without a tree, at a place", PLUS, IDLE, 100, Z, Z);
        fails("a constructor that the branch has not", PLUS, NIL, Z, Z);
        check.due("no RULE was used", x.count(6), 0);
        x = Programs.numbers();
        Check.rule(x, IDLE, CONS, 104, S, 107, CONS, CONS, 107, 104, 107);
        Check.problem(x, Z, IDLE, CONS, NIL, S, PLUS, 100, 101, 100, 101);
        x.solve(1);
        check.waits("what stands for the variables", x, 0, Z, CONS, CONS, PLUS, 100, 101, NIL, PLUS, 100, 101, 100, 101);
    }

    private void narrowing() {
        step("a variable", PLUS, 100, 101, 100, CONS, 100, 102, NIL);
        check.due("a problem for each constructor", x.count(2), 2);
        check.due("no RULE was used", x.count(6), 0);
        check.waits("the first", x, 0, PLUS, Z, 101, Z, CONS, Z, 102, NIL);
        check.waits("the second", x, 1, PLUS, S, 110, 101, S, 110, CONS, S, 110, 102, NIL);
        check.due("FRESH of the first", x.waiting(0, 2), 10);
        check.due("FRESH of the second", x.waiting(1, 2), 11);
        check.due("SIZE of the first", x.waiting(0, 1), 18);
        check.due("SIZE of the second", x.waiting(1, 1), 22);
        step("a variable of an inner function", S, Z, PLUS, PLUS, 105, Z, 106);
        check.waits("the second", x, 1, S, Z, PLUS, PLUS, S, 110, Z, 106);
        x = Programs.numbers();
        Check.rule(x, IDLE, TRIO, 100, CONS, 101, 102, 103, 102);
        Check.problem(x, IDLE, 100, 101);
        x.solve(2);
        check.waits("one place after the other", x, 0, IDLE, TRIO, 110, CONS, 113, 114, 112, 101);
        check.due("FRESH", x.waiting(0, 2), 15);
    }

    /** The first goes, what comes of it is put behind all others. */
    private void order() {
        x = Programs.numbers();
        Check.problem(x, PLUS, 100, 101, S, Z);
        x.solve(1);
        x.solve(1);
        check.waits("the second is the first now", x, 0, PLUS, S, 110, 101, S, Z);
        check.waits("behind it", x, 1, 101, S, Z);
        x.solve(1);
        check.waits("and again", x, 0, 101, S, Z);
        check.waits("and again", x, 1, S, PLUS, 110, 101, S, Z);
        check.due("all", x.solve(2000), 8);
        check.answers("0 + 1", x, 0, 0, Z);
        check.answers("0 + 1", x, 0, 1, S, Z);
        check.answers("1 + 0", x, 1, 0, S, Z);
        check.answers("1 + 0", x, 1, 1, Z);
        check.due("both ways", x.solutions(), 2);
        check.due("FAILED", x.count(5), 1);
    }

    private void size() {
        x = Programs.numbers();
        Check.rule(x, IDLE, 100, TRIO, 100, 100, 100);
        Check.problem(x, Programs.join(Programs.of(IDLE), Programs.tower(96), Programs.of(Z)));
        x.solve(1);
        check.due("SIZE may be 300", x.waiting(0, 1), 300);
        check.due("the last number", x.waiting(0, 3 + 289), Z);
        check.due("none behind", x.waiting(0, 3 + 290), NarrowSolver.NONE);
        check.due("not LOST", x.count(7), 0);
        Check.problem(x, Programs.join(Programs.of(IDLE), Programs.tower(96), Programs.of(S, Z)));
        check.due("solve(2000)", x.solve(2000), 1);
        check.due("SIZE may not be 301", x.count(2), 0);
        check.due("LOST", x.count(7), 1);
        check.due("not FAILED", x.count(5), 0);
        check.due("a RULE was used", x.count(6), 1);
        Check.problem(x, Programs.join(Programs.of(IDLE, IDLE), Programs.tower(100), Programs.of(Z)));
        x.solve(5);
        check.due("far above", x.count(7), 1);
        narrowedSize();
        boundSize();
    }

    /** Of the problems that come of one step, those are LOST that are too large, and the others wait. */
    private void narrowedSize() {
        for (int padding = 9; padding <= 10; padding++) {
            x = Programs.numbers();
            x.symbol(true, 2);
            Check.rule(x, 7, 100, 101, PLUS, 100, TRIO, 101, 101, 101);
            int[] many = new int[61];
            for (int i = 0; i < many.length; i++) {
                many[i] = i % 2 == 0 && i < 60 ? CONS : 100;
            }
            Check.problem(x, Programs.join(Programs.of(7, 100), many, Programs.tower(padding)));
            x.solve(1);
            check.due("SIZE before", x.waiting(0, 1), 1 + 1 + 1 + 3 * 61 + padding + 10);
            x.solve(1);
            check.due("Z goes", x.waiting(0, 1), 196 + padding);
            check.due("S goes if there is room", x.waiting(1, 1), padding == 9 ? 300 : NarrowSolver.NONE);
            check.due("LOST", x.count(7), padding == 9 ? 0 : 1);
            check.due("not FAILED", x.count(5), 0);
        }
    }

    /** A step's SIZE is that of what comes of it: between binding and splitting it would be two more. */
    private void boundSize() {
        for (int lost = 0; lost <= 1; lost++) {
            int bound = 69 + lost;
            int others = 5 - 3 * lost;
            int[] rest = new int[bound + others];
            java.util.Arrays.fill(rest, 0, bound, 100);
            java.util.Arrays.fill(rest, bound, rest.length, 101);
            x = Programs.numbers();
            Check.problem(x, Programs.join(Programs.of(100, TRIO, Z, Z, Z), rest));
            x.solve(1);
            check.due("SIZE", x.waiting(0, 1), lost == 0 ? 300 : NarrowSolver.NONE);
            check.due("LOST", x.count(7), lost);
        }
    }

    private void freshVariables() {
        x = Programs.numbers();
        Check.rule(x, IDLE, S, 100, IDLE, 100);
        Check.problem(x, IDLE, 100, Z);
        check.due("71 variables, each used once", x.solve(142), 142);
        check.due("the next would be 81", x.waiting(0, 2), 81);
        check.waits("80 is in use", x, 0, IDLE, 180, Z);
        check.due("not LOST", x.count(7), 0);
        check.due("81 is one too many", x.solve(10), 1);
        check.due("LOST", x.count(7), 1);
        check.due("not FAILED", x.count(5), 0);
        check.due("none waits", x.count(2), 0);
    }

    private void room() {
        x = Programs.twenty();
        Check.problem(x, 20, 100, 0, 20, 101, 0);
        check.due("to the second equation", x.solve(41), 41);
        check.due("twenty wait", x.count(2), 20);
        x.solve(1);
        check.due("19 and 20", x.count(2), 39);
        check.due("none is LOST", x.count(7), 0);
        x.solve(1);
        check.due("38 and 2", x.count(2), 40);
        check.due("18 are LOST", x.count(7), 18);
        check.waits("the first ones have the room", x, 38, 20, 0, 0);
        check.waits("the first ones have the room", x, 39, 20, 1, 0);
        x.solve(1);
        check.due("39 and 1", x.count(2), 40);
        check.due("19 more", x.count(7), 37);
        check.waits("the first one has the room", x, 39, 20, 0, 0);
        x.solve(17);
        check.due("all second ones", x.count(7), 360);
        check.due("one comes of each", x.solve(40), 40);
        check.due("none more is LOST", x.count(7), 360);
        check.due("all RULES used", x.count(6), 60);
        check.due("nothing FAILED", x.count(5), 0);
    }
}
