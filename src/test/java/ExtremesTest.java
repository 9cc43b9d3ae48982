/** Each int and long argument at its least and its greatest values, on a new object, an ordinary one and a full one. */
public final class ExtremesTest {
    private static final int[] EXTREMES = {Integer.MIN_VALUE, Integer.MIN_VALUE + 1, Integer.MAX_VALUE - 1, Integer.MAX_VALUE};
    private static final int NONE = NarrowSolver.NONE, BAD = NarrowSolver.BAD;
    private final Check check = new Check();
    private NarrowSolver x;
    private String about;

    public static void main(String[] args) {
        ExtremesTest test = new ExtremesTest();
        test.on(new NarrowSolver(), "new");
        test.on(ordinary(), "ordinary");
        test.on(Programs.full(), "full");
        test.longsOnTheTape();
        test.check.end();
    }

    /** Something waits, is solved, FAILED, and is on the tape. */
    private static NarrowSolver ordinary() {
        NarrowSolver x = Programs.numbers();
        Check.problem(x, Programs.PLUS, 100, 101, Programs.S, Programs.S, Programs.Z);
        x.solve(9);
        Check.feed(x, 100, 101, 102);
        return x;
    }

    private void on(NarrowSolver object, String name) {
        x = object;
        about = name;
        int[] before = counts();
        symbol();
        feed();
        solve();
        answer();
        node();
        waiting();
        count();
        int[] after = counts();
        for (int what = 0; what <= 8; what++) {
            check.due(about + ": count(" + what + ") is as before", after[what], before[what]);
        }
    }

    private int[] counts() {
        int[] all = new int[9];
        for (int what = 0; what <= 8; what++) {
            all[what] = x.count(what);
        }
        return all;
    }

    private void symbol() {
        for (int e : EXTREMES) {
            check.due(about + ": symbol(false, " + e + ")", x.symbol(false, e), BAD);
            check.due(about + ": symbol(true, " + e + ")", x.symbol(true, e), BAD);
        }
    }

    private void feed() {
        for (int e : EXTREMES) {
            for (long w : new long[] {Long.MIN_VALUE, -1, 0, Long.MAX_VALUE}) {
                check.due(about + ": feed(" + w + ", " + e + ")", x.feed(w, e), BAD);
            }
        }
    }

    private void solve() {
        for (int e : EXTREMES) {
            check.due(about + ": solve(" + e + ")", x.solve(e), BAD);
        }
    }

    private void answer() {
        for (int e : EXTREMES) {
            check.due(about + ": answer(" + e + ", 0, 0)", x.answer(e, 0, 0), NONE);
            check.due(about + ": answer(0, " + e + ", 0)", x.answer(0, e, 0), NONE);
            check.due(about + ": answer(0, 0, " + e + ")", x.answer(0, 0, e), NONE);
            check.due(about + ": answer(0, 9, " + e + ")", x.answer(0, 9, e), NONE);
            for (int other : EXTREMES) {
                check.due(about + ": answer(" + e + ", 0, " + other + ")", x.answer(e, 0, other), NONE);
                check.due(about + ": answer(0, " + e + ", " + other + ")", x.answer(0, e, other), NONE);
                check.due(about + ": answer(" + e + ", " + other + ", 0)", x.answer(e, other, 0), NONE);
            }
        }
    }

    private void node() {
        int function = NONE;
        for (int f = 0; f < 24; f++) {
            function = x.node(f, 0, 0) >= 0 ? f : function;
        }
        int otherwise = function == NONE ? BAD : NONE;
        for (int e : EXTREMES) {
            check.due(about + ": node(" + e + ", 0, 0)", x.node(e, 0, 0), BAD);
            check.due(about + ": node(f, " + e + ", 0)", x.node(function, e, 0), otherwise);
            check.due(about + ": node(f, 0, " + e + ")", x.node(function, 0, e), e < 0 ? BAD : otherwise);
            for (int other : EXTREMES) {
                check.due(about + ": node(" + e + ", " + other + ", 0)", x.node(e, other, 0), BAD);
                check.due(about + ": node(" + e + ", 0, " + other + ")", x.node(e, 0, other), BAD);
                check.due(about + ": node(f, " + e + ", " + other + ")", x.node(function, e, other), other < 0 ? BAD : otherwise);
            }
        }
    }

    private void waiting() {
        for (int e : EXTREMES) {
            check.due(about + ": waiting(" + e + ", 0)", x.waiting(e, 0), NONE);
            check.due(about + ": waiting(" + e + ", 3)", x.waiting(e, 3), NONE);
            check.due(about + ": waiting(0, " + e + ")", x.waiting(0, e), e < 0 ? BAD : NONE);
            for (int other : EXTREMES) {
                check.due(about + ": waiting(" + e + ", " + other + ")", x.waiting(e, other), other < 0 ? BAD : NONE);
            }
        }
    }

    private void count() {
        for (int e : EXTREMES) {
            check.due(about + ": count(" + e + ")", x.count(e), BAD);
        }
    }

    /** Constructors 0 and 1 are there, so that the bytes 0 and 1 are terms, and 254 and 255 are not. */
    private void longsOnTheTape() {
        long[] words = {Long.MIN_VALUE, Long.MIN_VALUE + 1, Long.MAX_VALUE - 1, Long.MAX_VALUE, -1L, 0L};
        int[] lowest = {0, 1, 254, 255, 255, 0};
        int[] higher = {0, 0, 255, 255, 255, 0};
        for (int i = 0; i < words.length; i++) {
            for (int n = 1; n <= 7; n++) {
                x = new NarrowSolver();
                x.symbol(false, 0);
                x.symbol(false, 0);
                String call = "feed(" + words[i] + ", " + n + ")";
                check.due(call, x.feed(words[i], n), n);
                int want = lowest[i] > 1 ? NarrowSolver.ODD : n % 2 == 0 ? n / 2 : NarrowSolver.SHORT;
                check.due(call + ": problem()", x.problem(), want);
                for (int k = 0; want > 0 && k < n; k++) {
                    check.due(call + ": number " + k, x.waiting(0, 3 + k), k == 0 ? lowest[i] : higher[i]);
                }
            }
        }
    }
}
