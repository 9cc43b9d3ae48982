import java.util.Arrays;

/** The section "2 SOLVING": each sentence of it that names a limit, on both sides of that limit. */
public final class SolvingEdgesTest {
    private static final int Z = Programs.Z, S = Programs.S, NIL = Programs.NIL, CONS = Programs.CONS, TRIO = Programs.TRIO;
    private static final int PLUS = Programs.PLUS, IDLE = Programs.IDLE;
    private static final int NONE = NarrowSolver.NONE;
    private final Check check = new Check();
    private NarrowSolver x;

    public static void main(String[] args) {
        SolvingEdgesTest test = new SolvingEdgesTest();
        test.noEquationsAtFirst();
        test.noEquationsAfterAStep();
        test.sizeByARule();
        test.sizeFarAbove();
        test.sizeByNarrowing();
        test.sizeByBindingTheLeftVariable();
        test.sizeByBindingTheRightVariable();
        test.sizeByTheAnswerAlone();
        test.freshByNarrowing();
        test.freshOfOneWayAlone();
        test.freshByBindingTheLeftVariable();
        test.freshByBindingTheRightVariable();
        test.rowOf40();
        test.rowThatLosesMany();
        test.thirtySolutions();
        test.variableWithinConstructors();
        test.variableWithinFunctions();
        test.variableWithinBoth();
        test.functionWithoutTree();
        test.functionWhoseRuleWasRefused();
        test.constructorThatTheBranchHasNot();
        test.constructorThatALaterBranchHasNot();
        test.check.end();
    }

    private void begin(int... numbers) {
        x = Programs.numbers();
        Check.problem(x, numbers);
    }

    /** One step, and then how many wait, are solved, FAILED and are LOST. */
    private void step(String about, int waiting, int solved, int failed, int lost) {
        check.due(about + ": solve(1)", x.solve(1), 1);
        state(about, waiting, solved, failed, lost);
    }

    private void state(String about, int waiting, int solved, int failed, int lost) {
        check.due(about + ": waiting", x.count(2), waiting);
        check.due(about + ": SOLUTIONS", x.count(3), solved);
        check.due(about + ": FAILED", x.count(5), failed);
        check.due(about + ": LOST", x.count(7), lost);
    }

    private void fails(String about, int... numbers) {
        begin(numbers);
        step(about, 0, 0, 1, 0);
    }

    private void goesOn(String about, int[] numbers, int... then) {
        begin(numbers);
        step(about, 1, 0, 0, 0);
        check.waits(about, x, 0, then);
    }

    private void noEquationsAtFirst() {
        begin();
        state("no EQUATION", 0, 1, 0, 0);
        check.due("no STEP is left to do", x.solve(1), 0);
        check.due("no STEP was done", x.count(4), 0);
        begin(100, 100);
        state("one EQUATION, whatever it is", 1, 0, 0, 0);
    }

    private void noEquationsAfterAStep() {
        int[][] ending = {{100, 100}, {100, 101}, {100, Z}, {Z, 100}, {Z, Z}};
        for (int[] numbers : ending) {
            begin(numbers);
            step("the last EQUATION goes: " + Arrays.toString(numbers), 0, 1, 0, 0);
            check.due("no STEP more", x.solve(1), 0);
            begin(Programs.join(numbers, Programs.of(105, 105)));
            step("the last but one goes: " + Arrays.toString(numbers), 1, 0, 0, 0);
            step("and the last", 0, 1, 0, 0);
        }
    }

    /** A problem's size, if it waits, or else it is LOST. */
    private void sizeOrLost(String about, int size) {
        boolean stays = size <= 300;
        step(about + " to SIZE " + size, stays ? 1 : 0, 0, 0, stays ? 0 : 1);
        check.due(about + " to SIZE " + size + ": waiting(0, 1)", x.waiting(0, 1), stays ? size : NONE);
    }

    private void sizeByARule() {
        for (int size = 299; size <= 302; size++) {
            x = Programs.numbers();
            Check.rule(x, IDLE, 100, TRIO, 100, 100, 100);
            Check.problem(x, Programs.join(Programs.of(IDLE), Programs.tower(90), Programs.tower(size - 281)));
            sizeOrLost("by a RULE", size);
            check.due("the RULE was used", x.count(6), 1);
            check.due("its last number", x.waiting(0, 3 + size - 11), size <= 300 ? Z : NONE);
            check.due("none behind", x.waiting(0, 3 + size - 10), NONE);
        }
    }

    /** A right side with its variable forty times makes thousands of numbers. */
    private void sizeFarAbove() {
        x = Programs.numbers();
        int[] right = new int[79];
        Arrays.fill(right, 100);
        for (int i = 0; i < 78; i += 2) {
            right[i] = CONS;
        }
        check.due("its RULE", Check.rule(x, Programs.join(Programs.of(IDLE, 100), right)), 2);
        Check.problem(x, Programs.join(Programs.of(IDLE), Programs.tower(110), Programs.of(Z)));
        step("far above", 0, 0, 0, 1);
        Check.problem(x, IDLE, 100, Z);
        sizeOrLost("the same RULE with less", 79 + 1 + 10);
    }

    /** Of the problems that come of one step, those are LOST that are too large, and the others wait. */
    private void sizeByNarrowing() {
        for (int padding = 9; padding <= 10; padding++) {
            x = Programs.numbers();
            x.symbol(true, 2);
            Check.rule(x, 7, 100, 101, PLUS, 100, TRIO, 101, 101, 101);
            int[] many = new int[61];
            Arrays.fill(many, 100);
            for (int i = 0; i < 60; i += 2) {
                many[i] = CONS;
            }
            Check.problem(x, Programs.join(Programs.of(7, 100), many, Programs.tower(padding)));
            sizeOrLost("before", 196 + padding);
            int lost = padding == 9 ? 0 : 1;
            step("narrowed", 2 - lost, 0, 0, lost);
            check.due("SIZE with Z", x.waiting(0, 1), 196 + padding);
            check.due("SIZE with S", x.waiting(1, 1), lost == 0 ? 300 : NONE);
        }
    }

    /** The size is that of what comes of the step: between binding and splitting it would be two more. */
    private void sizeByBinding(String about, int size, int... equation) {
        // behind the equation each variable 100 comes to count 4, and each 101 counts 1
        int behind = size - 6 - 4 - 9;
        int bound = 69 + size % 2;
        int[] rest = new int[behind - 3 * bound];
        Arrays.fill(rest, 101);
        Arrays.fill(rest, 0, bound, 100);
        x = Programs.numbers();
        check.due(about + ": EQUATIONS", Check.problem(x, Programs.join(equation, rest)), 1 + rest.length / 2);
        sizeOrLost(about, size);
    }

    private void sizeByBindingTheLeftVariable() {
        for (int size = 298; size <= 303; size++) {
            sizeByBinding("by binding the left one", size, 100, TRIO, Z, Z, Z);
        }
    }

    private void sizeByBindingTheRightVariable() {
        for (int size = 298; size <= 303; size++) {
            sizeByBinding("by binding the right one", size, TRIO, Z, Z, Z, 100);
        }
    }

    /** All ten unknowns become the same one, so that each S makes the answer larger by ten. */
    private void sizeByTheAnswerAlone() {
        for (int height = 36; height <= 37; height++) {
            int[] same = new int[18];
            for (int u = 0; u < 9; u++) {
                same[2 * u] = 100 + u;
                same[2 * u + 1] = 109;
            }
            begin(Programs.join(same, Programs.of(109), Programs.tower(height + 1)));
            x.solve(9 + 27);
            check.due("SIZE before", x.waiting(0, 1), 12 + height + 9 * 27);
            sizeOrLost("by the ANSWER", 12 + height + 9 * 28);
        }
    }

    private void freshByNarrowing() {
        x = Programs.numbers();
        Check.rule(x, IDLE, S, 100, IDLE, 100);
        Check.problem(x, IDLE, 100, Z);
        check.due("a variable and a RULE each", x.solve(140), 140);
        check.due("the next is 80", x.waiting(0, 2), 80);
        step("variable 80", 1, 0, 0, 0);
        check.due("the next would be 81", x.waiting(0, 2), 81);
        check.waits("variable 80 is in use", x, 0, IDLE, S, 180, Z);
        step("a RULE needs none", 1, 0, 0, 0);
        check.waits("variable 80 is in use", x, 0, IDLE, 180, Z);
        step("variable 81", 0, 0, 0, 1);
        check.due("no STEP more", x.solve(1), 0);
    }

    /** A way without fresh variables stays where the one beside it has no numbers left: 79, 80 and then 81. */
    private void freshOfOneWayAlone() {
        x = Programs.numbers();
        Check.rule(x, IDLE, TRIO, 100, 101, 102, IDLE, 102);
        Check.rule(x, IDLE, Z, Z);
        Check.problem(x, IDLE, 100, Z);
        for (int i = 0; i < 200 && x.count(7) == 0; i++) {
            x.solve(1);
        }
        state("the way with TRIO is LOST, that with Z waits", 1, 23, 0, 1);
        check.waits("Z in place of variable 78", x, 0, IDLE, Z, Z);
        check.due("the next is 79 still", x.waiting(0, 2), 79);
        check.due("a RULE, and the EQUATION goes", x.solve(2000), 2);
        state("a SOLUTION more", 0, 24, 0, 1);
    }

    /** So many fresh variables are used up by so many S, one by one, before the equation's turn comes. */
    private void freshByBinding(int used, int needed, boolean turned) {
        int[][] terms = {{NIL}, {S, 102}, {CONS, 102, 103}, {TRIO, 102, 103, 104}};
        int[] one = {100};
        int[] other = {101};
        int[] tower = Programs.tower(used + 1);
        int[] term = terms[needed];
        begin(turned ? Programs.join(tower, one, term, other) : Programs.join(one, tower, other, term));
        String about = used + " fresh ones, then " + needed + (turned ? " at the right" : " at the left");
        check.due(about + ": before", x.solve(used + 1), used + 1);
        check.due(about + ": the next", x.waiting(0, 2), 10 + used);
        int last = 10 + used + needed - 1;
        boolean stays = needed == 0 || last <= 80;
        step(about, stays && needed > 0 ? 1 : 0, needed == 0 ? 1 : 0, 0, stays ? 0 : 1);
        check.due(about + ": the next", x.waiting(0, 2), stays && needed > 0 ? last + 1 : NONE);
    }

    private void freshByBindingTheLeftVariable() {
        for (int used = 67; used <= 71; used++) {
            for (int needed = 0; needed <= 3; needed++) {
                freshByBinding(used, needed, false);
            }
        }
    }

    private void freshByBindingTheRightVariable() {
        for (int used = 67; used <= 71; used++) {
            for (int needed = 0; needed <= 3; needed++) {
                freshByBinding(used, needed, true);
            }
        }
    }

    /** Each equation has two ways: a wave of steps for it narrows all that wait, then uses rules, then lets it go. */
    private void doubling(int equations) {
        x = new NarrowSolver();
        x.symbol(false, 0);
        x.symbol(false, 0);
        x.symbol(true, 1);
        Check.rule(x, 2, 0, 0);
        Check.rule(x, 2, 1, 0);
        int[] numbers = new int[3 * equations];
        for (int i = 0; i < equations; i++) {
            numbers[3 * i] = 2;
            numbers[3 * i + 1] = 100 + i;
        }
        Check.problem(x, numbers);
    }

    private void rowOf40() {
        doubling(6);
        check.due("five waves", x.solve(31 + 62 + 62), 155);
        state("five waves", 32, 0, 0, 0);
        x.solve(7);
        state("seven more", 39, 0, 0, 0);
        step("the 40th has room", 40, 0, 0, 0);
        check.waits("the last one", x, 39, 2, 1, 0);
        step("a 41st has none", 40, 0, 0, 1);
        check.waits("the first of the two has the room", x, 39, 2, 0, 0);
        check.due("no 41st", x.waiting(40, 0), NONE);
        step("nor a second one", 40, 0, 0, 2);
        x.solve(22);
        state("all narrowed", 40, 0, 0, 24);
        x.solve(40);
        state("where one goes one has room", 40, 0, 0, 24);
    }

    /** Twenty ways at once where there is room for two, and for one. */
    private void rowThatLosesMany() {
        x = Programs.twenty();
        Check.problem(x, 20, 100, 0, 20, 101, 0);
        check.due("to the second equation", x.solve(41), 41);
        state("the first equation's ways", 20, 0, 0, 0);
        step("19 and 20", 39, 0, 0, 0);
        step("38 and 2", 40, 0, 0, 18);
        check.waits("the first ones have the room", x, 38, 20, 0, 0);
        check.waits("the first ones have the room", x, 39, 20, 1, 0);
        step("39 and 1", 40, 0, 0, 37);
        check.waits("the first one has the room", x, 39, 20, 0, 0);
        x.solve(17);
        state("all second ones", 40, 0, 0, 360);
        check.due("one comes of each", x.solve(40), 40);
        state("none more is LOST", 40, 0, 0, 360);
        check.due("all RULES used", x.count(6), 60);
    }

    private void thirtySolutions() {
        doubling(5);
        check.due("four waves, and the fifth but for its end", x.solve(15 + 60 + 16 + 32), 123);
        state("before the first", 32, 0, 0, 0);
        x.solve(29);
        state("29 of them", 3, 29, 0, 0);
        step("the 30th", 2, 30, 0, 0);
        check.answers("the 30th", x, 29, 0, 1);
        check.answers("the 30th", x, 29, 4, 1);
        check.answers("the 30th", x, 29, 3, 0);
        step("a 31st", 1, 30, 0, 1);
        check.due("no 31st", x.answer(30, 0, 0), NONE);
        step("a 32nd", 0, 30, 0, 2);
        check.answers("the 30th stays", x, 29, 3, 0);
        check.answers("the first stays", x, 0, 3, 0);
    }

    private void variableWithinConstructors() {
        fails("in it", 100, S, 100);
        fails("in it, at the right", S, 100, 100);
        fails("deep within", 100, CONS, Z, CONS, S, 100, Z);
        fails("deep within, at the right", CONS, Z, CONS, S, 100, Z, 100);
        fails("as the last argument", 100, TRIO, Z, Z, 100);
        goesOn("another one in it", Programs.of(100, S, 101), 110, 101);
        goesOn("another one in it, at the right", Programs.of(S, 101, 100), 101, 110);
        goesOn("in another EQUATION", Programs.of(100, S, 101, 100, 102), 110, 101, S, 110, 102);
        begin(100, 100);
        step("itself", 0, 1, 0, 0);
    }

    private void variableWithinFunctions() {
        goesOn("within it alone", Programs.of(100, S, PLUS, 100, Z), 110, PLUS, S, 110, Z);
        goesOn("at the right", Programs.of(S, PLUS, 100, Z, 100), PLUS, S, 110, Z, 110);
        goesOn("within a CONSTRUCTOR within it", Programs.of(CONS, IDLE, S, 100, Z, 100), IDLE, S, CONS, 110, 111, 110, Z, 111);
        goesOn("within two of them", Programs.of(100, CONS, IDLE, 100, IDLE, 100), 110, IDLE, CONS, 110, 111, 111, IDLE, CONS, 110, 111);
        goesOn("within one in another", Programs.of(100, S, IDLE, PLUS, Z, 100), 110, IDLE, PLUS, Z, S, 110);
        goesOn("the whole side is worked on before", Programs.of(100, PLUS, Z, 100), 100, 100);
    }

    private void variableWithinBoth() {
        fails("before the FUNCTION", 100, CONS, 100, PLUS, 100, Z);
        fails("just behind the FUNCTION", 100, CONS, PLUS, 100, Z, 100);
        fails("just behind it, at the right", CONS, PLUS, 100, Z, 100, 100);
        fails("between two of them", 100, TRIO, IDLE, 100, 100, IDLE, 100);
        fails("behind one in another", 100, CONS, IDLE, PLUS, 100, IDLE, 100, S, 100);
        goesOn("another one behind it", Programs.of(100, CONS, IDLE, 100, 101), 110, IDLE, CONS, 110, 111, 111, 101);
    }

    private void functionWithoutTree() {
        fails("at the left", IDLE, Z, Z);
        fails("at the right", Z, IDLE, Z);
        fails("at the right of a variable", 100, IDLE, 100);
        fails("of a variable", IDLE, 100, 101);
        fails("at the PLACE", PLUS, IDLE, Z, Z, Z);
        goesOn("where it is not needed", Programs.of(PLUS, Z, IDLE, Z, Z), IDLE, Z, Z);
        begin(IDLE, Z, Z);
        check.due("a RULE while it waits", Check.rule(x, IDLE, Z, Z), 2);
        step("with a TREE", 1, 0, 0, 0);
    }

    private void functionWhoseRuleWasRefused() {
        begin(IDLE, 100, Z);
        check.due("nine deep", Check.rule(x, IDLE, S, S, S, S, S, S, S, S, Z, Z), NarrowSolver.OVER);
        check.due("no TREE", x.node(IDLE, 0, 0), NONE);
        step("without a TREE", 0, 0, 1, 0);
        begin(IDLE, 100, Z);
        check.due("eight deep", Check.rule(x, IDLE, S, S, S, S, S, S, S, Z, Z), 2);
        step("with a TREE", 1, 0, 0, 0);
        begin(PLUS, 100, Z, Z);
        check.due("one too many", Check.rule(x, PLUS, 100, Z, Z), NarrowSolver.OVER);
        step("with the TREE of before", 2, 0, 0, 0);
    }

    /** Below, at, between and above those that the branch has. */
    private void constructorThatTheBranchHasNot() {
        for (int c = 0; c <= 8; c++) {
            x = new NarrowSolver();
            for (int s = 0; s <= 8; s++) {
                x.symbol(false, 0);
            }
            x.symbol(true, 1);
            Check.rule(x, 9, 5, 0);
            Check.rule(x, 9, 2, 0);
            Check.rule(x, 9, 6, 0);
            Check.problem(x, 9, c, 0);
            boolean has = c == 2 || c == 5 || c == 6;
            step("CONSTRUCTOR " + c, has ? 1 : 0, 0, has ? 0 : 1, 0);
            check.due("a RULE was used", x.count(6), has ? 1 : 0);
        }
        x = new NarrowSolver();
        x.symbol(false, 0);
        x.symbol(true, 1);
        Check.rule(x, 1, 0, 0);
        check.due("one that came after the RULE", x.symbol(false, 0), 2);
        Check.problem(x, 1, 2, 0);
        step("one that came after the RULE", 0, 0, 1, 0);
    }

    private void constructorThatALaterBranchHasNot() {
        int[][] arguments = {{CONS, S, Z, NIL}, {CONS, Z, NIL}, {CONS, S, NIL, NIL}, {CONS, S, Z, Z}, {Z}};
        for (int i = 0; i < arguments.length; i++) {
            x = Programs.numbers();
            check.due("its RULE", Check.rule(x, IDLE, CONS, S, Z, NIL, Z), 2);
            Check.problem(x, Programs.join(Programs.of(IDLE), arguments[i], Programs.of(Z)));
            step("argument " + i, i == 0 ? 1 : 0, 0, i == 0 ? 0 : 1, 0);
        }
        fails("of a FUNCTION at the PLACE", PLUS, PLUS, NIL, Z, Z, Z);
        goesOn("of a FUNCTION at the PLACE that has it", Programs.of(PLUS, PLUS, Z, Z, Z, Z), PLUS, Z, Z, Z);
    }
}
