/** Small programs that several tests use. */
final class Programs {
    static final int Z = 0, S = 1, NIL = 2, CONS = 3, TRIO = 4, PLUS = 5, IDLE = 6;
    static final int X = 100, Y = 101, V = 102;

    private Programs() {
    }

    /** Constructors Z, S(.), NIL, CONS(..), TRIO(...), PLUS(..) with its two rules, and IDLE(.) without any. */
    static NarrowSolver numbers() {
        NarrowSolver x = new NarrowSolver();
        x.symbol(false, 0);
        x.symbol(false, 1);
        x.symbol(false, 0);
        x.symbol(false, 2);
        x.symbol(false, 3);
        x.symbol(true, 2);
        x.symbol(true, 1);
        Check.rule(x, PLUS, Z, Y, Y);
        Check.rule(x, PLUS, S, X, Y, S, PLUS, X, Y);
        return x;
    }

    /** Constructors 0 .. 19 without arguments, and functions 20 .. 22 of one argument; 20 makes each of them 0. */
    static NarrowSolver twenty() {
        NarrowSolver x = new NarrowSolver();
        for (int c = 0; c < 20; c++) {
            x.symbol(false, 0);
        }
        for (int f = 20; f < 23; f++) {
            x.symbol(true, 1);
        }
        for (int c = 0; c < 20; c++) {
            Check.rule(x, 20, c, 0);
        }
        return x;
    }

    /** So many numbers that are the term S(S(..(Z))). */
    static int[] tower(int length) {
        int[] numbers = new int[length];
        java.util.Arrays.fill(numbers, S);
        numbers[length - 1] = Z;
        return numbers;
    }

    static int[] join(int[]... parts) {
        return java.util.Arrays.stream(parts).flatMapToInt(java.util.Arrays::stream).toArray();
    }

    static int[] of(int... numbers) {
        return numbers;
    }
}
