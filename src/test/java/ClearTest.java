/** Promise 2: clear makes all as at first, and tells how many symbols there were. */
public final class ClearTest {
    public static void main(String[] args) {
        Check check = new Check();
        NarrowSolver x = new NarrowSolver();
        check.due("clear() of a new one", x.clear(), 0);
        NewObjectTest.nothing(check, x, "cleared at first");
        x = Programs.numbers();
        // solutions, waiting problems, steps, failures, rules used and a tape: all of it must go
        Check.problem(x, Programs.PLUS, Programs.X, Programs.Y, Programs.S, Programs.S, Programs.Z);
        x.solve(8);
        check.due("some solutions", x.solutions() > 0 ? 1 : 0, 1);
        check.due("some waiting", x.count(2) > 0 ? 1 : 0, 1);
        Check.feed(x, 1, 2, 3);
        check.due("clear()", x.clear(), 7);
        NewObjectTest.nothing(check, x, "cleared");
        check.due("clear() again", x.clear(), 0);
        x.symbol(true, 1);
        x.clear();
        NewObjectTest.nothing(check, x, "cleared of a function");
        numbersBeginAgain(check);
        check.end();
    }

    private static void numbersBeginAgain(Check check) {
        NarrowSolver x = Programs.numbers();
        x.clear();
        check.due("symbol", x.symbol(true, 2), 0);
        for (int f = 1; f < 6; f++) {
            check.due("symbol", x.symbol(true, 2), f);
        }
        check.due("no tree is left of the former function", x.node(Programs.PLUS, 0, 0), NarrowSolver.NONE);
        check.due("a rule's number", Check.rule(x, Programs.PLUS, 100, 101, 100), 0);
        check.due("its leaf", x.node(Programs.PLUS, 0, 1), 0);
        check.due("fed", Check.feed(x, 100), 1);
        Check.feed(x, 100);
        check.due("problem()", x.problem(), 1);
        check.due("fresh variables begin with 10", x.waiting(0, 2), 10);
    }
}
