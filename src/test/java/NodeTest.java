/** Promise 10: the nodes of a function's tree. */
public final class NodeTest {
    private static final int Z = Programs.Z, S = Programs.S, NIL = Programs.NIL, CONS = Programs.CONS, TRIO = Programs.TRIO;
    private static final int PLUS = Programs.PLUS, IDLE = Programs.IDLE;
    private final Check check = new Check();

    public static void main(String[] args) {
        NodeTest test = new NodeTest();
        test.whichFunction();
        test.whichNode();
        test.whichWhat();
        test.badBeforeNone();
        test.leafAlone();
        test.firstVariable();
        test.leastFirst();
        test.oneRule();
        test.laterPlaceFirst();
        test.functionZero();
        test.madeAgain();
        test.largest();
        test.check.end();
    }

    /** A leaf: its rule; a branch: its place, then where it leads. */
    private void node(NarrowSolver x, int f, int k, boolean leaf, int which, int... leads) {
        String about = "node(" + f + ", " + k + ", ";
        check.due(about + "0)", x.node(f, k, 0), leaf ? 0 : 1);
        check.due(about + "1)", x.node(f, k, 1), which);
        check.due(about + "2)", x.node(f, k, 2), leads.length);
        for (int i = 0; i < leads.length; i++) {
            check.due(about + (3 + i) + ")", x.node(f, k, 3 + i), leads[i]);
        }
        check.due(about + (3 + leads.length) + ")", x.node(f, k, 3 + leads.length), NarrowSolver.NONE);
        check.due(about + "MAX_VALUE)", x.node(f, k, Integer.MAX_VALUE), NarrowSolver.NONE);
    }

    private void noNode(NarrowSolver x, int f, int k) {
        for (int what = 0; what < 5; what++) {
            check.due("node(" + f + ", " + k + ", " + what + ")", x.node(f, k, what), NarrowSolver.NONE);
        }
    }

    /** Functions 5 and 6 between what is none: constructors below, and above what has not come yet. */
    private void whichFunction() {
        NarrowSolver x = Programs.numbers();
        for (int f : new int[] {-1, Z, S, NIL, CONS, TRIO, 7, 8, 23, 24, 25, Integer.MIN_VALUE, Integer.MAX_VALUE}) {
            check.due("node of " + f, x.node(f, 0, 0), NarrowSolver.BAD);
        }
        check.due("the first FUNCTION", x.node(PLUS, 0, 0), 1);
        check.due("the last FUNCTION, without a TREE", x.node(IDLE, 0, 0), NarrowSolver.NONE);
        x.symbol(true, 3);
        check.due("one more", x.node(7, 0, 0), NarrowSolver.NONE);
        check.due("and the next above", x.node(8, 0, 0), NarrowSolver.BAD);
        x = Programs.full();
        check.due("FUNCTION 23 of 24", x.node(23, 0, 2), 16);
        check.due("there is no 24", x.node(24, 0, 2), NarrowSolver.BAD);
    }

    private void whichNode() {
        NarrowSolver x = Programs.numbers();
        noNode(x, PLUS, -1);
        node(x, PLUS, 0, false, 1, 1, 2);
        node(x, PLUS, 2, true, 1);
        noNode(x, PLUS, 3);
        noNode(x, PLUS, 4);
        noNode(x, PLUS, Integer.MAX_VALUE);
        noNode(x, PLUS, Integer.MIN_VALUE);
        noNode(x, IDLE, -1);
        noNode(x, IDLE, 0);
        noNode(x, IDLE, 1);
    }

    private void whichWhat() {
        NarrowSolver x = Programs.numbers();
        int[] branch = {NarrowSolver.BAD, 1, 1, 2, 1, 2, NarrowSolver.NONE, NarrowSolver.NONE};
        int[] leaf = {NarrowSolver.BAD, 0, 1, 0, NarrowSolver.NONE, NarrowSolver.NONE, NarrowSolver.NONE, NarrowSolver.NONE};
        for (int what = -1; what <= 6; what++) {
            check.due("a BRANCH: " + what, x.node(PLUS, 0, what), branch[what + 1]);
            check.due("a LEAF: " + what, x.node(PLUS, 2, what), leaf[what + 1]);
        }
        for (int k = 0; k <= 2; k++) {
            check.due("the least what", x.node(PLUS, k, Integer.MIN_VALUE), NarrowSolver.BAD);
            check.due("the greatest what", x.node(PLUS, k, Integer.MAX_VALUE), NarrowSolver.NONE);
        }
        x = Programs.twenty();
        check.due("the 20th of 20 CONSTRUCTORS", x.node(20, 0, 22), 20);
        check.due("a 21st", x.node(20, 0, 23), NarrowSolver.NONE);
    }

    private void badBeforeNone() {
        NarrowSolver x = Programs.numbers();
        for (int k : new int[] {-1, 3, Integer.MIN_VALUE, Integer.MAX_VALUE}) {
            check.due("no FUNCTION, no node", x.node(Z, k, 0), NarrowSolver.BAD);
            check.due("no symbol, no node", x.node(7, k, 0), NarrowSolver.BAD);
            check.due("what below 0, no node", x.node(PLUS, k, -1), NarrowSolver.BAD);
            check.due("what below 0, no TREE", x.node(IDLE, k, Integer.MIN_VALUE), NarrowSolver.BAD);
            check.due("neither FUNCTION nor node nor what", x.node(-1, k, -1), NarrowSolver.BAD);
        }
        check.due("no FUNCTION, a what that leads nowhere", x.node(Z, 0, 100), NarrowSolver.BAD);
    }

    private void leafAlone() {
        NarrowSolver x = Programs.numbers();
        Check.rule(x, IDLE, 105, 105);
        node(x, IDLE, 0, true, 2);
        noNode(x, IDLE, 1);
    }

    private void firstVariable() {
        NarrowSolver x = new NarrowSolver();
        x.symbol(false, 0);
        x.symbol(false, 1);
        x.symbol(true, 3);
        check.due("rule", Check.rule(x, 2, 100, 1, 0, 101, 0), 0);
        node(x, 2, 0, false, 2, 1);
        node(x, 2, 1, false, 21, 2);
        node(x, 2, 2, true, 0);
        check.due("rule", Check.rule(x, 2, 100, 1, 1, 102, 0, 0), 1);
        check.due("rule", Check.rule(x, 2, 100, 0, 101, 0), 2);
        node(x, 2, 0, false, 2, 1, 2);
        node(x, 2, 1, true, 2);
        node(x, 2, 2, false, 21, 3, 4);
        node(x, 2, 3, true, 0);
        node(x, 2, 4, false, 3, 5);
        node(x, 2, 5, true, 1);
        noNode(x, 2, 6);
    }

    /** The least constructor first, and each one's nodes before those of the next. */
    private void leastFirst() {
        NarrowSolver x = Programs.numbers();
        Check.rule(x, IDLE, TRIO, 100, 101, Z, Z);
        Check.rule(x, IDLE, CONS, 100, S, 101, Z);
        Check.rule(x, IDLE, TRIO, 100, 101, S, 102, Z);
        Check.rule(x, IDLE, CONS, 100, NIL, Z);
        Check.rule(x, IDLE, Z, Z);
        node(x, IDLE, 0, false, 1, 1, 2, 5);
        node(x, IDLE, 1, true, 6);
        node(x, IDLE, 2, false, 12, 3, 4);
        node(x, IDLE, 3, true, 3);
        node(x, IDLE, 4, true, 5);
        node(x, IDLE, 5, false, 13, 6, 7);
        node(x, IDLE, 6, true, 2);
        node(x, IDLE, 7, true, 4);
        noNode(x, IDLE, 8);
        node(x, PLUS, 2, true, 1);
    }

    /** A rule alone has a branch for each of its constructors, as they are written. */
    private void oneRule() {
        NarrowSolver x = Programs.numbers();
        Check.rule(x, IDLE, CONS, TRIO, 100, Z, 101, S, NIL, Z);
        int[] places = {1, 11, 112, 12, 121};
        for (int k = 0; k < places.length; k++) {
            node(x, IDLE, k, false, places[k], k + 1);
        }
        node(x, IDLE, 5, true, 2);
        noNode(x, IDLE, 6);
    }

    /** A branch at an earlier place below one at a later place, more than once. */
    private void laterPlaceFirst() {
        NarrowSolver x = new NarrowSolver();
        for (int arguments : new int[] {0, 1, 0, 2}) {
            x.symbol(false, arguments);
        }
        x.symbol(true, 2);
        int f = 4;
        Check.rule(x, f, 100, NIL, Z);
        Check.rule(x, f, S, 100, Z, Z);
        Check.rule(x, f, CONS, 100, 101, Z, Z);
        Check.rule(x, f, S, 100, S, 101, Z);
        Check.rule(x, f, CONS, 100, 101, S, Z, Z);
        check.due("the last rule", Check.rule(x, f, CONS, 100, 101, S, S, 102, Z), 5);
        node(x, f, 0, false, 2, 1, 4, 9);
        node(x, f, 1, false, 1, 2, 3);
        node(x, f, 2, true, 1);
        node(x, f, 3, true, 2);
        node(x, f, 4, false, 1, 5, 6);
        node(x, f, 5, true, 3);
        node(x, f, 6, false, 21, 7, 8);
        node(x, f, 7, true, 4);
        node(x, f, 8, true, 5);
        node(x, f, 9, true, 0);
        noNode(x, f, 10);
    }

    /** The first symbol may be a function as well as any other. */
    private void functionZero() {
        NarrowSolver x = new NarrowSolver();
        x.symbol(true, 1);
        x.symbol(false, 0);
        check.due("no TREE yet", x.node(0, 0, 0), NarrowSolver.NONE);
        check.due("its RULE", Check.rule(x, 0, 1, 1), 0);
        node(x, 0, 0, false, 1, 1);
        node(x, 0, 1, true, 0);
        Check.problem(x, 0, 100, 1);
        check.due("solved with it", x.solve(10), 3);
        check.due("solved with it", x.solutions(), 1);
        x.clear();
        x.symbol(true, 1);
        check.due("no TREE after clear", x.node(0, 0, 0), NarrowSolver.NONE);
        check.due("DEEP with it", Check.rule(x, 0, 0, 100, 100), NarrowSolver.DEEP);
    }

    /** A tree has nothing in it of one that was there before, neither when asked nor when used. */
    private void madeAgain() {
        NarrowSolver x = Programs.twenty();
        x.clear();
        for (int c = 0; c < 20; c++) {
            x.symbol(false, 0);
        }
        x.symbol(true, 1);
        for (int c = 5; c < 8; c++) {
            Check.rule(x, 20, c, 0);
        }
        node(x, 20, 0, false, 1, 1, 2, 3);
        for (int k = 1; k <= 3; k++) {
            node(x, 20, k, true, k - 1);
        }
        noNode(x, 20, 4);
        Check.problem(x, 20, 100, 0);
        x.solve(1);
        check.due("as many ways as there are now", x.count(2), 3);
        Check.problem(x, 20, 9, 0);
        x.solve(1);
        check.due("no constructor of before", x.count(5), 1);
    }

    /** 38 constructors of three arguments with 79 of none below them: as large as a left side can be. */
    private void largest() {
        NarrowSolver x = new NarrowSolver();
        x.symbol(false, 0);
        x.symbol(false, 3);
        x.symbol(true, 3);
        java.util.List<Integer> written = new java.util.ArrayList<>(java.util.List.of(2));
        int[] trios = {0};
        for (int a = 0; a < 3; a++) {
            addFull(written, 3, trios);
        }
        written.add(0);
        check.due("its numbers", Check.feed(x, written.stream().mapToInt(n -> n).toArray()), 119);
        check.due("rule", x.rule(), 0);
        node(x, 2, 0, false, 1, 1);
        node(x, 2, 3, false, 1111, 4);
        node(x, 2, 116, false, 333, 117);
        node(x, 2, 117, true, 0);
        noNode(x, 2, 118);
        Check.problem(x, 2, 100, 101, 102, 103);
        x.solve(2000);
        check.due("more fresh variables than there may be", x.count(7), 1);
        check.due("the 24th TRIO, for 23 of them there are numbers, is the 69th constructor", x.count(4), 69);
    }

    private static void addFull(java.util.List<Integer> out, int depth, int[] trios) {
        if (depth == 0 || trios[0] == 38) {
            out.add(0);
            return;
        }
        trios[0]++;
        out.add(1);
        for (int a = 0; a < 3; a++) {
            addFull(out, depth - 1, trios);
        }
    }
}
