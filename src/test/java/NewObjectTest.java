/** Promise 1: a new object has nothing at all. */
public final class NewObjectTest {
    public static void main(String[] args) {
        Check check = new Check();
        nothing(check, new NarrowSolver(), "new");
        apart(check);
        the512thCall(check);
        check.end();
    }

    /** All that can be asked without a change; ClearTest asks it too. */
    static void nothing(Check check, NarrowSolver x, String about) {
        for (int what = 0; what <= 8; what++) {
            check.due(about + ": count(" + what + ")", x.count(what), 0);
        }
        check.due(about + ": solutions()", x.solutions(), 0);
        check.due(about + ": answer(0, 0, 0)", x.answer(0, 0, 0), NarrowSolver.NONE);
        check.due(about + ": waiting(0, 0)", x.waiting(0, 0), NarrowSolver.NONE);
        for (int f = 0; f < 24; f++) {
            check.due(about + ": node(" + f + ", 0, 0)", x.node(f, 0, 0), NarrowSolver.BAD);
        }
        check.due(about + ": solve(1)", x.solve(1), 0);
        check.due(about + ": count(4) after solve", x.count(4), 0);
    }

    private static void apart(Check check) {
        NarrowSolver one = Programs.numbers();
        Check.problem(one, Programs.X, Programs.X);
        NarrowSolver other = new NarrowSolver();
        nothing(check, other, "beside another");
        other.symbol(false, 0);
        check.due("the first one's symbols", one.count(0), 7);
    }

    /** Up to the last call that the document speaks of, all is as in the first ones. */
    private static void the512thCall(Check check) {
        NarrowSolver x = new NarrowSolver();
        for (int call = 1; call <= 510; call += 2) {
            check.due("feed as call " + call, x.feed(100, 1), 1);
            check.due("rule as call " + (call + 1), x.rule(), NarrowSolver.SHORT);
        }
        check.due("symbol as call 511", x.symbol(false, 0), 0);
        check.due("clear as call 512", x.clear(), 1);
    }
}
