import java.util.Arrays;

/** Promise 5: a tape becomes a rule, or has the first of its faults; TermsEdgesTest has what the faults are. */
public final class RuleTest {
    private static final int Z = Programs.Z, S = Programs.S, CONS = Programs.CONS, PLUS = Programs.PLUS, IDLE = Programs.IDLE;
    private final Check check = new Check();

    public static void main(String[] args) {
        RuleTest test = new RuleTest();
        test.eachCase();
        test.the40thAndThe41st();
        test.treeOfARefusedRule();
        test.problemsStay();
        test.solutionsStay();
        test.countAtOnce();
        test.check.end();
    }

    /** The tape is empty afterwards, and only a rule without a fault changes anything else. */
    private void eachCase() {
        due(2, IDLE, 109, 109);
        due(2, IDLE, 100, PLUS, 100, IDLE, 100);
        due(NarrowSolver.ODD, IDLE, 100, 24);
        due(NarrowSolver.ODD, 110);
        due(NarrowSolver.SHORT);
        due(NarrowSolver.SHORT, IDLE, 100);
        due(NarrowSolver.LONG, IDLE, 100, 100, 200);
        due(NarrowSolver.LONG, IDLE, 100, 100, IDLE, 100, 100);
        due(NarrowSolver.SIDE, S, IDLE, 100, Z);
        due(NarrowSolver.DEEP, IDLE, S, PLUS, 100, 101, Z);
        due(NarrowSolver.TWICE, IDLE, CONS, 109, S, 109, Z);
        due(NarrowSolver.FREE, IDLE, CONS, 100, 102, CONS, 100, CONS, 102, 101);
        due(NarrowSolver.OVER, PLUS, Z, 101, 101);
        due(NarrowSolver.OVER, IDLE, S, S, S, S, S, S, S, S, Z, Z);
    }

    private void due(int want, int... numbers) {
        NarrowSolver x = Programs.numbers();
        Check.problem(x, PLUS, 100, 101, S, Z);
        x.solve(6);
        int[] before = new int[8];
        for (int what = 0; what < 8; what++) {
            before[what] = x.count(what);
        }
        String about = "rule() of " + Arrays.toString(numbers);
        check.due(about, Check.rule(x, numbers), want);
        check.due(about + ": the tape is empty", x.count(8), 0);
        check.due(about + ": nothing is left for another rule", x.rule(), NarrowSolver.SHORT);
        check.due(about + ": the tape begins again", x.feed(100, 1), 1);
        before[1] += want < 0 ? 0 : 1;
        for (int what = 0; what < 8; what++) {
            check.due(about + ": count(" + what + ")", x.count(what), before[what]);
        }
        check.due(about + ": IDLE's TREE", x.node(IDLE, 0, 1), want < 0 ? NarrowSolver.NONE : want);
        check.due(about + ": PLUS's TREE stays", x.node(PLUS, 2, 1), 1);
        check.due(about + ": PLUS's TREE stays", x.node(PLUS, 0, 2), 2);
    }

    private void the40thAndThe41st() {
        NarrowSolver x = Programs.twenty();
        for (int c = 0; c < 20; c++) {
            check.due("rule " + (20 + c), Check.rule(x, 21, c, c), 20 + c);
            check.due("RULES", x.count(1), 21 + c);
        }
        check.due("a 41st", Check.rule(x, 22, 100, 100), NarrowSolver.MANY);
        check.due("the tape is empty", x.count(8), 0);
        check.due("the tape begins again", x.feed(22, 1), 1);
        check.due("a 41st again", Check.rule(x, 100, 100), NarrowSolver.MANY);
        check.due("RULES", x.count(1), 40);
        check.due("none came", x.node(22, 0, 0), NarrowSolver.NONE);
        check.due("all nodes", x.node(21, 20, 1), 39);
        x.clear();
        x.symbol(true, 1);
        check.due("room again after clear", Check.rule(x, 0, 100, 100), 0);
    }

    private void treeOfARefusedRule() {
        NarrowSolver x = Programs.numbers();
        check.due("the same once more", Check.rule(x, PLUS, Z, 105, Z), NarrowSolver.OVER);
        check.due("a more general one", Check.rule(x, PLUS, 100, 101, 100), NarrowSolver.OVER);
        check.due("no place that all have", Check.rule(x, PLUS, 100, Z, 100), NarrowSolver.OVER);
        check.due("a more special one", Check.rule(x, PLUS, S, Z, 101, 101), NarrowSolver.OVER);
        check.due("no RULE came", x.count(1), 2);
        check.due("the tree is as before", x.node(PLUS, 0, 2), 2);
        check.due("the tree is as before", x.node(PLUS, 2, 1), 1);
        check.due("the next one's number", Check.rule(x, PLUS, Programs.NIL, Z, Z), 2);
        check.due("the tree has it", x.node(PLUS, 0, 2), 3);
        check.due("a refused one leaves no part of itself", Check.rule(x, IDLE, CONS, Z, Z, Z), 3);
        check.due("overlap in a part", Check.rule(x, IDLE, CONS, 100, Z, Z), NarrowSolver.OVER);
        check.due("one beside it", Check.rule(x, IDLE, CONS, S, 100, Z, Z), 4);
    }

    private void problemsStay() {
        NarrowSolver x = Programs.numbers();
        Check.problem(x, PLUS, 100, 101, S, Z);
        x.solve(1);
        Check.rule(x, IDLE, 100, 100);
        Check.rule(x, PLUS, Programs.NIL, 100, 100);
        check.due("both wait", x.count(2), 2);
        check.waits("the first", x, 0, PLUS, Z, 101, S, Z);
        check.waits("the second", x, 1, PLUS, S, 110, 101, S, Z);
        check.due("STEPS stay", x.count(4), 1);
    }

    private void solutionsStay() {
        NarrowSolver x = Programs.numbers();
        Check.problem(x, PLUS, 100, 101, S, Z);
        x.solve(2000);
        check.due("another rule", Check.rule(x, IDLE, S, 100, Z), 2);
        check.due("SOLUTIONS stay", x.solutions(), 2);
        check.due("what was counted stays", x.count(4), 11);
        check.answers("the first stays", x, 0, 1, S, Z);
        check.answers("the second stays", x, 1, 0, S, Z);
    }

    private void countAtOnce() {
        NarrowSolver x = Programs.numbers();
        Check.problem(x, IDLE, 100, Z, IDLE, Z, Z);
        check.due("a rule while a problem waits", Check.rule(x, IDLE, Z, Z), 2);
        check.due("the problem stays", x.waiting(0, 0), 2);
        check.due("solve", x.solve(100), 5);
        check.due("a solution by the new rule", x.solutions(), 1);
        Check.problem(x, IDLE, 100, Z);
        check.due("another rule", Check.rule(x, IDLE, S, 100, Z), 3);
        x.solve(1);
        check.due("a way more by the new rule", x.count(2), 2);
    }
}
