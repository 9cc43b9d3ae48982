/** Promise 5: a tape becomes a rule, or has the first of its faults. */
public final class RuleTest {
    private static final int Z = Programs.Z, S = Programs.S, CONS = Programs.CONS, PLUS = Programs.PLUS, IDLE = Programs.IDLE;
    private final Check check = new Check();

    public static void main(String[] args) {
        RuleTest test = new RuleTest();
        test.faultsOfTheTape();
        test.faultsOfTheTerms();
        test.order();
        test.many();
        test.over();
        test.depth();
        test.countAtOnce();
        test.check.end();
    }

    private void due(int want, int... numbers) {
        NarrowSolver x = Programs.numbers();
        Check.problem(x, 100, 101);
        check.due("rule() of " + java.util.Arrays.toString(numbers), Check.rule(x, numbers), want);
        check.due("the tape is empty then", x.count(8), 0);
        check.due("RULES", x.count(1), want < 0 ? 2 : 3);
        check.due("THE ROW stays", x.count(2), 1);
        check.due("the trees of others stay", x.node(PLUS, 2, 1), 1);
    }

    private void faultsOfTheTape() {
        due(NarrowSolver.ODD, 7);
        due(NarrowSolver.ODD, 99);
        due(NarrowSolver.ODD, 110);
        due(NarrowSolver.ODD, 255);
        due(NarrowSolver.ODD, IDLE, 100, 24);
        due(NarrowSolver.ODD, IDLE, 110, 100);
        due(NarrowSolver.SHORT);
        due(NarrowSolver.SHORT, IDLE);
        due(NarrowSolver.SHORT, IDLE, 100);
        due(NarrowSolver.SHORT, IDLE, 100, S);
        due(NarrowSolver.SHORT, IDLE, 100, CONS, 100);
        due(NarrowSolver.LONG, IDLE, 100, 100, 100);
        due(NarrowSolver.LONG, IDLE, 100, 100, 200);
        due(NarrowSolver.LONG, 100, 100, IDLE);
        due(2, IDLE, 109, 109);
        due(2, IDLE, 100, PLUS, 100, IDLE, 100);
    }

    private void faultsOfTheTerms() {
        due(NarrowSolver.SIDE, 100, Z);
        due(NarrowSolver.SIDE, Z, Z);
        due(NarrowSolver.SIDE, S, IDLE, 100, Z);
        due(NarrowSolver.DEEP, IDLE, IDLE, 100, Z);
        due(NarrowSolver.DEEP, IDLE, S, PLUS, 100, 101, Z);
        due(NarrowSolver.TWICE, PLUS, 100, 100, Z);
        due(NarrowSolver.TWICE, IDLE, CONS, 109, S, 109, Z);
        due(NarrowSolver.FREE, IDLE, 100, 101);
        due(NarrowSolver.FREE, IDLE, Z, S, 100);
        due(NarrowSolver.FREE, IDLE, CONS, 100, 102, CONS, 100, CONS, 102, 101);
    }

    private void order() {
        due(NarrowSolver.ODD, 100, 110);
        due(NarrowSolver.ODD, IDLE, 30, CONS);
        due(NarrowSolver.SHORT, Z, CONS, Z);
        due(NarrowSolver.LONG, Z, Z, 255);
        due(NarrowSolver.LONG, PLUS, 100, 100, 101, Z);
        due(NarrowSolver.SIDE, CONS, IDLE, 100, 100, 101);
        due(NarrowSolver.DEEP, PLUS, CONS, 100, 100, IDLE, Z, 101);
        due(NarrowSolver.TWICE, PLUS, 100, 100, 101);
        due(NarrowSolver.FREE, PLUS, Z, 101, 102);
        due(NarrowSolver.OVER, PLUS, Z, 101, 101);
    }

    private void many() {
        NarrowSolver x = Programs.twenty();
        for (int c = 0; c < 20; c++) {
            check.due("rule " + (20 + c), Check.rule(x, 21, c, c), 20 + c);
        }
        check.due("a 41st", Check.rule(x, 22, 100, 100), NarrowSolver.MANY);
        check.due("MANY before OVER", Check.rule(x, 21, 100, 100), NarrowSolver.MANY);
        check.due("FREE before MANY", Check.rule(x, 22, 100, 101), NarrowSolver.FREE);
        check.due("the tape is empty", x.count(8), 0);
        check.due("RULES", x.count(1), 40);
        check.due("none came", x.node(22, 0, 0), NarrowSolver.NONE);
        check.due("all nodes", x.node(21, 20, 1), 39);
    }

    private void over() {
        NarrowSolver x = Programs.numbers();
        check.due("the same once more", Check.rule(x, PLUS, Z, 105, Z), NarrowSolver.OVER);
        check.due("a more general one", Check.rule(x, PLUS, 100, 101, 100), NarrowSolver.OVER);
        check.due("no place that all have", Check.rule(x, PLUS, 100, Z, 100), NarrowSolver.OVER);
        check.due("a more special one", Check.rule(x, PLUS, S, Z, 101, 101), NarrowSolver.OVER);
        check.due("no RULE came", x.count(1), 2);
        check.due("the tree is as before", x.node(PLUS, 0, 2), 2);
        check.due("the tree is as before", x.node(PLUS, 2, 1), 1);
        check.due("one of another constructor", Check.rule(x, PLUS, Programs.NIL, Z, Z), 2);
        check.due("the tree has it", x.node(PLUS, 0, 2), 3);
        check.due("one rule without variables goes", Check.rule(x, IDLE, CONS, Z, Z, Z), 3);
        check.due("overlap in a part", Check.rule(x, IDLE, CONS, 100, Z, Z), NarrowSolver.OVER);
    }

    private void depth() {
        for (int height = 1; height <= 10; height++) {
            NarrowSolver x = Programs.numbers();
            int[] left = Programs.tower(height + 1);
            left[height] = 100;
            int want = height <= 8 ? 2 : NarrowSolver.OVER;
            check.due("variable under " + height, Check.rule(x, Programs.join(Programs.of(IDLE), left, Programs.of(Z))), want);
            x = Programs.numbers();
            want = height <= 8 ? 2 : NarrowSolver.OVER;
            check.due("tower of " + height, Check.rule(x, Programs.join(Programs.of(IDLE), Programs.tower(height), Programs.of(Z))), want);
        }
        NarrowSolver x = Programs.numbers();
        Check.rule(x, IDLE, S, S, S, S, S, S, S, Z, Z);
        check.due("the deepest place", x.node(IDLE, 7, 1), 11111111);
        check.due("beside a rule that has no need of it", Check.rule(x, PLUS, Programs.NIL, S, S, S, S, S, S, S, S, Z, Z), NarrowSolver.OVER);
        check.due("and the other argument's deepest", Check.rule(x, PLUS, Programs.NIL, S, S, S, S, S, S, S, Z, Z), 3);
        check.due("its place", x.node(PLUS, 10, 1), 21111111);
    }

    private void countAtOnce() {
        NarrowSolver x = Programs.numbers();
        Check.problem(x, IDLE, 100, Z, IDLE, Z, Z);
        check.due("a rule while a problem waits", Check.rule(x, IDLE, Z, Z), 2);
        check.due("the problem stays", x.waiting(0, 0), 2);
        check.due("solve", x.solve(100), 5);
        check.due("a solution by the new rule", x.solutions(), 1);
        check.due("another rule", Check.rule(x, IDLE, S, 100, Z), 3);
        check.due("SOLUTIONS stay", x.solutions(), 1);
        check.due("what was counted stays", x.count(6), 2);
        check.due("answer stays", x.answer(0, 0, 0), Z);
    }
}
