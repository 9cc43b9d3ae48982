/** Promise 3: symbols are numbered from 0 on, 24 at most, constructors of 0 to 3 arguments and functions of 1 to 3. */
public final class SymbolTest {
    public static void main(String[] args) {
        Check check = new Check();
        NarrowSolver x = new NarrowSolver();
        wrongArguments(check, x);
        check.due("none came", x.count(0), 0);
        for (int s = 0; s < 24; s++) {
            boolean function = s % 2 == 1;
            int arguments = function ? 1 + s % 3 : s % 4;
            check.due("symbol(" + function + ", " + arguments + ")", x.symbol(function, arguments), s);
            check.due("count(0)", x.count(0), s + 1);
        }
        check.due("a 25th", x.symbol(false, 0), NarrowSolver.FULL);
        check.due("a 25th", x.symbol(true, 3), NarrowSolver.FULL);
        wrongArguments(check, x);
        check.due("count(0)", x.count(0), 24);
        for (int s = 0; s < 24; s++) {
            check.due("node of " + s, x.node(s, 0, 0), s % 2 == 1 ? NarrowSolver.NONE : NarrowSolver.BAD);
        }
        eachNumberOfArguments(check);
        check.end();
    }

    private static void wrongArguments(Check check, NarrowSolver x) {
        for (int wrong : new int[] {-1, 4, 5, 1000, Integer.MIN_VALUE, Integer.MAX_VALUE}) {
            check.due("symbol(false, " + wrong + ")", x.symbol(false, wrong), NarrowSolver.BAD);
            check.due("symbol(true, " + wrong + ")", x.symbol(true, wrong), NarrowSolver.BAD);
        }
        check.due("symbol(true, 0)", x.symbol(true, 0), NarrowSolver.BAD);
    }

    /** As many arguments as were said: with one variable less the term is short, with just as many it is whole. */
    private static void eachNumberOfArguments(Check check) {
        for (int kind = 0; kind < 2; kind++) {
            for (int arguments = kind; arguments <= 3; arguments++) {
                NarrowSolver x = new NarrowSolver();
                x.symbol(kind == 1, arguments);
                for (int given = 0; given <= arguments; given++) {
                    Check.feed(x, 100, 0);
                    for (int a = 0; a < given; a++) {
                        Check.feed(x, 100);
                    }
                    check.due("problem() with " + given + " of " + arguments, x.problem(), given < arguments ? NarrowSolver.SHORT : 1);
                }
            }
        }
    }
}
