/** Small programs that several tests use. */
final class Programs {
    static final int Z = 0, S = 1, NIL = 2, CONS = 3, TRIO = 4, PLUS = 5, IDLE = 6;
    static final int X = 100, Y = 101;
    static final int FULL_STEPS = 1700;
    /** What count(0) .. count(8) answer of full(). */
    static final int[] FULL_COUNTS = {24, 40, 40, 30, FULL_STEPS, 1, 1583, 9, 120};

    private Programs() {
    }

    /** Constructors Z, S(.), NIL, CONS(..), TRIO(...), PLUS(..) with its two rules, and IDLE(.) without any. */
    static NarrowSolver numbers() {
        NarrowSolver x = new NarrowSolver();
        x.symbol(false, 0);
        x.symbol(false, 1);
        x.symbol(false, 0);
        x.symbol(false, 2);
        x.symbol(false, 3);
        x.symbol(true, 2);
        x.symbol(true, 1);
        Check.rule(x, PLUS, Z, Y, Y);
        Check.rule(x, PLUS, S, X, Y, S, PLUS, X, Y);
        return x;
    }

    /** Constructors 0 .. 19 without arguments, and functions 20 .. 22 of one argument; 20 makes each of them 0. */
    static NarrowSolver twenty() {
        NarrowSolver x = new NarrowSolver();
        for (int c = 0; c < 20; c++) {
            x.symbol(false, 0);
        }
        for (int f = 20; f < 23; f++) {
            x.symbol(true, 1);
        }
        for (int c = 0; c < 20; c++) {
            Check.rule(x, 20, c, 0);
        }
        return x;
    }

    /**
     * All that has a limit is at it: 24 symbols, 40 rules, 40 problems that wait, 30 solutions, 120 numbers on the tape;
     * some problems are lost, and a step has failed. H finds solutions on and on, W ways that never end.
     */
    static NarrowSolver full() {
        NarrowSolver x = new NarrowSolver();
        fill(x);
        return x;
    }

    static void fill(NarrowSolver x) {
        int h = 19, w = 20, either = 21;
        for (int s = 0; s < 24; s++) {
            x.symbol(s >= h, s == S || s >= h ? s == either ? 2 : 1 : 0);
        }
        Check.rule(x, h, Z, Z);
        Check.rule(x, h, S, X, h, X);
        Check.rule(x, w, Z, w, Z);
        Check.rule(x, w, S, X, w, X);
        Check.rule(x, either, Z, X, h, X);
        Check.rule(x, either, S, X, Y, w, Y);
        Check.rule(x, either, NIL, X, NIL);
        for (int c = 2; c < h; c++) {
            Check.rule(x, 22, c, c);
        }
        for (int c = 3; c < h; c++) {
            Check.rule(x, 23, c, c);
        }
        Check.problem(x, either, X, Y, Z);
        x.solve(FULL_STEPS);
        Check.feed(x, tower(120));
    }

    /** So many numbers that are the term S(S(..(Z))). */
    static int[] tower(int length) {
        int[] numbers = new int[length];
        java.util.Arrays.fill(numbers, S);
        numbers[length - 1] = Z;
        return numbers;
    }

    static int[] join(int[]... parts) {
        return java.util.Arrays.stream(parts).flatMapToInt(java.util.Arrays::stream).toArray();
    }

    static int[] of(int... numbers) {
        return numbers;
    }
}
