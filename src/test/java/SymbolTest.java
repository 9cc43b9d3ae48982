/** Promise 3: symbols are numbered from 0 on, 24 at most, constructors of 0 to 3 arguments and functions of 1 to 3. */
public final class SymbolTest {
    private final Check check = new Check();

    public static void main(String[] args) {
        SymbolTest test = new SymbolTest();
        test.badWhileThereIsRoom();
        test.the24thAndThe25th();
        test.badBeforeFull();
        test.theLastOneIsUsed();
        test.roomAgainAfterClear();
        test.eachNumberOfArguments();
        test.check.end();
    }

    private static NarrowSolver with(int symbols) {
        NarrowSolver x = new NarrowSolver();
        for (int s = 0; s < symbols; s++) {
            x.symbol(s % 2 == 1, 1 + s % 3);
        }
        return x;
    }

    private void wrongArguments(String about, NarrowSolver x) {
        for (int wrong : new int[] {-1, 4, 5, 1000, Integer.MIN_VALUE, Integer.MAX_VALUE}) {
            check.due(about + ": symbol(false, " + wrong + ")", x.symbol(false, wrong), NarrowSolver.BAD);
            check.due(about + ": symbol(true, " + wrong + ")", x.symbol(true, wrong), NarrowSolver.BAD);
        }
        check.due(about + ": symbol(true, 0)", x.symbol(true, 0), NarrowSolver.BAD);
    }

    private void badWhileThereIsRoom() {
        NarrowSolver x = with(0);
        wrongArguments("none yet", x);
        check.due("none came", x.count(0), 0);
        x = with(23);
        wrongArguments("23", x);
        check.due("none came", x.count(0), 23);
        check.due("the 24th has room", x.symbol(true, 3), 23);
    }

    private void the24thAndThe25th() {
        NarrowSolver x = new NarrowSolver();
        for (int s = 0; s < 24; s++) {
            boolean function = s % 2 == 1;
            int arguments = function ? 1 + s % 3 : s % 4;
            check.due("symbol(" + function + ", " + arguments + ")", x.symbol(function, arguments), s);
            check.due("count(0)", x.count(0), s + 1);
        }
        check.due("a constructor as the 25th", x.symbol(false, 0), NarrowSolver.FULL);
        check.due("a function as the 25th", x.symbol(true, 3), NarrowSolver.FULL);
        check.due("none came", x.count(0), 24);
        for (int s = 0; s < 24; s++) {
            check.due("node of " + s, x.node(s, 0, 0), s % 2 == 1 ? NarrowSolver.NONE : NarrowSolver.BAD);
        }
        check.due("node of a 25th", x.node(24, 0, 0), NarrowSolver.BAD);
    }

    private void badBeforeFull() {
        NarrowSolver x = with(24);
        wrongArguments("24", x);
        for (int arguments = 0; arguments <= 3; arguments++) {
            check.due("a good constructor", x.symbol(false, arguments), NarrowSolver.FULL);
            check.due("a function", x.symbol(true, arguments), arguments == 0 ? NarrowSolver.BAD : NarrowSolver.FULL);
        }
        check.due("none came", x.count(0), 24);
    }

    private void theLastOneIsUsed() {
        NarrowSolver x = with(23);
        Check.feed(x, 23, 100, 100);
        check.due("23 is no symbol yet", x.rule(), NarrowSolver.ODD);
        check.due("the 24th", x.symbol(true, 1), 23);
        check.due("its rule", Check.rule(x, 23, 100, 100), 0);
        check.due("its tree", x.node(23, 0, 0), 0);
        Check.problem(x, 23, 100, 101);
        check.due("it is worked on", x.solve(1), 1);
        check.due("it is worked on", x.count(6), 1);
        check.due("24 is none", Check.rule(x, 23, 100, 24), NarrowSolver.ODD);
    }

    private void roomAgainAfterClear() {
        NarrowSolver x = with(24);
        x.clear();
        check.due("the first again", x.symbol(false, 2), 0);
        check.due("count(0)", x.count(0), 1);
    }

    /** As many arguments as were said: with one variable less the term is short, with just as many it is whole. */
    private void eachNumberOfArguments() {
        for (int kind = 0; kind < 2; kind++) {
            for (int arguments = kind; arguments <= 3; arguments++) {
                NarrowSolver x = new NarrowSolver();
                x.symbol(kind == 1, arguments);
                for (int given = 0; given <= arguments; given++) {
                    Check.feed(x, 100, 0);
                    for (int a = 0; a < given; a++) {
                        Check.feed(x, 100);
                    }
                    check.due("problem() with " + given + " of " + arguments, x.problem(), given < arguments ? NarrowSolver.SHORT : 1);
                }
            }
        }
    }
}
