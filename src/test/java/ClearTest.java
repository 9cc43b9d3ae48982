/** Promise 2: clear makes all as at first, and tells how many symbols there were. */
public final class ClearTest {
    private final Check check = new Check();

    public static void main(String[] args) {
        ClearTest test = new ClearTest();
        test.newObject();
        test.fullObject();
        test.inTheMiddle();
        test.eachKindAlone();
        test.numbersBeginAgain();
        test.check.end();
    }

    private void newObject() {
        NarrowSolver x = new NarrowSolver();
        check.due("clear() of a new one", x.clear(), 0);
        NewObjectTest.nothing(check, x, "cleared at first");
        check.due("clear() again", x.clear(), 0);
    }

    private void fullObject() {
        NarrowSolver x = Programs.full();
        full(x);
        check.due("clear() of a full one", x.clear(), 24);
        NewObjectTest.nothing(check, x, "cleared of all");
        Programs.fill(x);
        full(x);
        check.due("clear() of one that is full again", x.clear(), 24);
        check.due("clear() again", x.clear(), 0);
        NewObjectTest.nothing(check, x, "cleared of all again");
    }

    /** Nothing more goes into it, and what it has is the same whether it was filled before or not. */
    private void full(NarrowSolver x) {
        for (int what = 0; what <= 8; what++) {
            check.due("full: count(" + what + ")", x.count(what), Programs.FULL_COUNTS[what]);
        }
        check.due("full: symbol", x.symbol(false, 0), NarrowSolver.FULL);
        check.due("full: feed", x.feed(0, 1), NarrowSolver.FULL);
        check.due("full: a PROBLEM 40", x.waiting(39, 0), 1);
        check.due("full: no 41st", x.waiting(40, 0), NarrowSolver.NONE);
        check.answers("full: the 30th", x, 29, 1, Programs.tower(30));
        check.due("full: a rule too many", fedRule(x), NarrowSolver.MANY);
    }

    private static int fedRule(NarrowSolver x) {
        x.rule();
        return Check.rule(x, 23, 2, 2);
    }

    /** Solutions, waiting problems, steps, failures, rules used and a tape: all of it must go. */
    private void inTheMiddle() {
        NarrowSolver x = Programs.numbers();
        Check.problem(x, Programs.PLUS, Programs.X, Programs.Y, Programs.S, Programs.S, Programs.Z);
        x.solve(8);
        check.due("some solutions", x.solutions() > 0 ? 1 : 0, 1);
        check.due("some waiting", x.count(2) > 0 ? 1 : 0, 1);
        Check.feed(x, 1, 2, 3);
        check.due("clear()", x.clear(), 7);
        NewObjectTest.nothing(check, x, "cleared");
    }

    private void eachKindAlone() {
        NarrowSolver x = new NarrowSolver();
        x.symbol(true, 1);
        check.due("clear() of a function alone", x.clear(), 1);
        NewObjectTest.nothing(check, x, "cleared of a function");
        x.feed(0, 7);
        check.due("clear() of a tape alone", x.clear(), 0);
        NewObjectTest.nothing(check, x, "cleared of a tape");
        x.problem();
        check.due("clear() of a solution alone", x.clear(), 0);
        NewObjectTest.nothing(check, x, "cleared of a solution");
        Check.problem(x, 100, 101);
        check.due("clear() of a problem alone", x.clear(), 0);
        NewObjectTest.nothing(check, x, "cleared of a problem");
    }

    private void numbersBeginAgain() {
        NarrowSolver x = Programs.numbers();
        x.clear();
        for (int f = 0; f < 6; f++) {
            check.due("symbol", x.symbol(true, 2), f);
        }
        check.due("no tree is left of the former function", x.node(Programs.PLUS, 0, 0), NarrowSolver.NONE);
        check.due("a rule's number", Check.rule(x, Programs.PLUS, 100, 101, 100), 0);
        check.due("its leaf", x.node(Programs.PLUS, 0, 1), 0);
        check.due("fed", Check.feed(x, 100), 1);
        Check.feed(x, 100);
        check.due("problem()", x.problem(), 1);
        check.due("fresh variables begin with 10", x.waiting(0, 2), 10);
    }
}
