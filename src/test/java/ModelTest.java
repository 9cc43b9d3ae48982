import java.util.ArrayList;
import java.util.Collections;
import java.util.List;
import java.util.Random;

/**
 * Made-up programs and problems, run by the solver and by the plain model side by side: all that can be asked must be the same.
 * To ask for so much takes more than the 512 calls that the document promises an object; the solver counts no calls.
 */
public final class ModelTest {
    private static final int RUNS = 1200;
    private static final int[] EDGES = {Integer.MIN_VALUE, -7, -1, 0, 1, 2, 3, 5, 7, 8, 9, 10, 23, 24, 39, 40, 120, 2000, 2001, Integer.MAX_VALUE};

    private final Check check = new Check();
    private final long[] reached = new long[9];
    private final long[] faults = new long[20];
    private Random random;
    private NarrowSolver x;
    private PlainModel m;
    private int run;
    private final List<Integer> arities = new ArrayList<>();
    private final List<Boolean> functions = new ArrayList<>();

    public static void main(String[] args) {
        ModelTest test = new ModelTest();
        for (int run = 0; run < RUNS; run++) {
            test.runOne(run);
        }
        for (int run = RUNS; run < 2 * RUNS; run++) {
            test.wildCalls(run);
        }
        test.requireReach();
        test.check.end();
    }

    private void runOne(int number) {
        run = number;
        random = new Random(number);
        if (x == null || random.nextInt(3) == 0) {
            x = new NarrowSolver();
            m = new PlainModel();
        } else {
            same("clear()", x.clear(), m.clear());
        }
        makeSymbols();
        makeRules();
        compareNodes();
        for (int p = 0; p < 3; p++) {
            makeProblem();
            compareState();
            int rounds = 1 + random.nextInt(5);
            for (int i = 0; i < rounds; i++) {
                int n = random.nextInt(8) == 0 ? 1 + random.nextInt(300) : 1 + random.nextInt(12);
                same("solve(" + n + ")", x.solve(n), m.solve(n));
                compareState();
                if (random.nextInt(12) == 0) {
                    feedRule(randomRule());
                }
            }
            note();
        }
        compareNodes();
    }

    /** Calls in any order with any arguments, on a new object. */
    private void wildCalls(int number) {
        run = number;
        random = new Random(number);
        x = new NarrowSolver();
        m = new PlainModel();
        for (int call = 0; call < 512; call++) {
            wildCall(random.nextInt(call % 100 < 99 ? 16 : 17));
        }
        compareState();
    }

    private int edge() {
        return EDGES[random.nextInt(EDGES.length)];
    }

    /** Mostly small symbols and variables, so that some tapes are terms. */
    private long bytes() {
        long w = 0;
        for (int i = 0; i < 8; i++) {
            int b = random.nextInt(20) == 0 ? random.nextInt(256) : random.nextBoolean() ? random.nextInt(6) : 100 + random.nextInt(3);
            w = w << 8 | b;
        }
        return w;
    }

    private void wildCall(int kind) {
        int a = edge();
        int b = random.nextInt(3) == 0 ? edge() : random.nextInt(5);
        int c = random.nextInt(3) == 0 ? edge() : random.nextInt(5);
        long w = bytes();
        switch (kind) {
            case 0 -> same("symbol(true, " + b + ")", x.symbol(true, b), m.symbol(true, b));
            case 1 -> same("symbol(false, " + b + ")", x.symbol(false, b), m.symbol(false, b));
            case 2, 3, 4, 5 -> same("feed(" + w + ", " + b + ")", x.feed(w, b), m.feed(w, b));
            case 6, 7 -> same("rule()", x.rule(), m.rule());
            case 8, 9 -> same("problem()", x.problem(), m.problem());
            case 10, 11 -> same("solve(" + c + ")", x.solve(c), m.solve(c));
            case 12 -> same("answer", x.answer(b, c, a), m.answer(b, c, a));
            case 13 -> same("node", x.node(a, b, c), m.node(a, b, c));
            case 14 -> same("waiting", x.waiting(b, a), m.waiting(b, a));
            case 15 -> same("count", x.count(a), m.count(a));
            default -> same("clear()", x.clear(), m.clear());
        }
    }

    private void same(String call, int got, int want) {
        check.due("run " + run + ": " + call, got, want);
    }

    private void makeSymbols() {
        arities.clear();
        functions.clear();
        int constructors = 1 + random.nextInt(4);
        int made = 1 + random.nextInt(4);
        for (int i = 0; i < constructors + made; i++) {
            boolean function = i >= constructors;
            int least = function ? 1 : 0;
            int arguments = i == 0 ? 0 : least + random.nextInt(4 - least);
            same("symbol", x.symbol(function, arguments), m.symbol(function, arguments));
            arities.add(arguments);
            functions.add(function);
        }
    }

    private List<Integer> symbols(boolean function) {
        List<Integer> found = new ArrayList<>();
        for (int i = 0; i < functions.size(); i++) {
            if (functions.get(i) == function) {
                found.add(i);
            }
        }
        return found;
    }

    private int pick(List<Integer> from) {
        return from.get(random.nextInt(from.size()));
    }

    /** Left sides that come of a tree, so that most of them go together. */
    private void split(List<Integer> pattern, int depth, List<List<Integer>> out) {
        List<Integer> holes = new ArrayList<>();
        for (int i = 0; i < pattern.size(); i++) {
            if (pattern.get(i) >= 100) {
                holes.add(i);
            }
        }
        if (depth == 0 || holes.isEmpty() || random.nextInt(4) == 0) {
            if (random.nextInt(10) > 0) {
                out.add(pattern);
            }
            return;
        }
        int hole = pick(holes);
        for (int c : symbols(false)) {
            List<Integer> more = new ArrayList<>(pattern.subList(0, hole));
            more.add(c);
            for (int a = 0; a < arities.get(c); a++) {
                more.add(100);
            }
            more.addAll(pattern.subList(hole + 1, pattern.size()));
            split(more, depth - 1, out);
        }
    }

    private void makeRules() {
        List<List<Integer>> all = new ArrayList<>();
        for (int f : symbols(true)) {
            if (random.nextInt(10) == 0) {
                continue;
            }
            List<Integer> pattern = new ArrayList<>();
            pattern.add(f);
            for (int a = 0; a < arities.get(f); a++) {
                pattern.add(100);
            }
            List<List<Integer>> lefts = new ArrayList<>();
            split(pattern, random.nextInt(4), lefts);
            for (List<Integer> left : lefts) {
                all.add(withRight(left));
            }
        }
        Collections.shuffle(all, random);
        for (List<Integer> rule : all) {
            feedRule(rule);
            if (random.nextInt(6) == 0) {
                feedRule(randomRule());
            }
        }
    }

    private List<Integer> withRight(List<Integer> left) {
        List<Integer> names = new ArrayList<>();
        for (int v = 100; v < 110; v++) {
            names.add(v);
        }
        Collections.shuffle(names, random);
        List<Integer> rule = new ArrayList<>();
        List<Integer> own = new ArrayList<>();
        for (int n : left) {
            if (n >= 100) {
                int name = names.get(own.size() % 10);
                own.add(name);
                rule.add(name);
            } else {
                rule.add(n);
            }
        }
        addTerm(rule, own, random.nextInt(4));
        return rule;
    }

    private List<Integer> randomRule() {
        List<Integer> rule = new ArrayList<>();
        List<Integer> own = List.of(100, 101, 102, 103, 104, 105, 106, 107, 108, 109);
        if (random.nextInt(3) == 0) {
            addTerm(rule, own, 2);
        } else {
            int f = pick(symbols(true));
            rule.add(f);
            for (int a = 0; a < arities.get(f); a++) {
                addTerm(rule, own, 1);
            }
        }
        addTerm(rule, rule.stream().anyMatch(n -> n >= 100) && random.nextInt(3) > 0
            ? rule.stream().filter(n -> n >= 100).toList() : own, 2);
        if (random.nextInt(6) == 0) {
            rule.add(random.nextInt(256));
        }
        if (random.nextInt(6) == 0) {
            rule.remove(rule.size() - 1);
        }
        if (random.nextInt(6) == 0 && !rule.isEmpty()) {
            rule.set(random.nextInt(rule.size()), random.nextInt(256));
        }
        return rule;
    }

    private void addTerm(List<Integer> out, List<Integer> variables, int depth) {
        boolean variable = !variables.isEmpty() && random.nextInt(3) == 0;
        if (variable || depth == 0 && !variables.isEmpty()) {
            out.add(pick(variables));
            return;
        }
        int s = depth <= 0 ? 0 : random.nextInt(arities.size());
        out.add(s);
        for (int a = 0; a < arities.get(s); a++) {
            addTerm(out, variables, depth - 1);
        }
    }

    private void feedAll(List<Integer> numbers) {
        for (int at = 0; at < numbers.size(); ) {
            int n = Math.min(1 + random.nextInt(7), numbers.size() - at);
            long w = random.nextLong();
            for (int i = 0; i < n; i++) {
                w = w & ~(255L << 8 * i) | (long) numbers.get(at + i) << 8 * i;
            }
            same("feed", x.feed(w, n), m.feed(w, n));
            at += n;
        }
    }

    private void feedRule(List<Integer> rule) {
        feedAll(rule);
        int want = m.rule();
        same("rule() of " + rule, x.rule(), want);
        faults[want < 0 ? -want : 0]++;
    }

    private void makeProblem() {
        List<Integer> numbers = new ArrayList<>();
        int equations = random.nextInt(20) == 0 ? 0 : 1 + random.nextInt(3);
        List<Integer> unknowns = List.of(100, 101, 102, 103, 100);
        for (int i = 0; i < 2 * equations; i++) {
            addTerm(numbers, unknowns, i % 2 == 0 ? 3 : 2);
        }
        if (random.nextInt(15) == 0) {
            numbers.add(random.nextInt(130));
        }
        feedAll(numbers);
        same("count(8)", x.count(8), m.count(8));
        same("problem() of " + numbers, x.problem(), m.problem());
    }

    private void compareState() {
        for (int what = -1; what <= 9; what++) {
            same("count(" + what + ")", x.count(what), m.count(what));
        }
        same("solutions()", x.solutions(), m.solutions());
        for (int i = -1; i <= m.count(2); i++) {
            int what = -1;
            int last = 0;
            for (; what < 5 || last >= 0; what++) {
                last = m.waiting(i, what);
                same("waiting(" + i + ", " + what + ")", x.waiting(i, what), last);
            }
            same("waiting(" + i + ", " + what + ")", x.waiting(i, what), m.waiting(i, what));
        }
        for (int i = -1; i <= m.solutions(); i++) {
            for (int u = -1; u <= 10; u++) {
                int last = 0;
                for (int k = -1; k < 1 || last >= 0; k++) {
                    last = m.answer(i, u, k);
                    same("answer(" + i + ", " + u + ", " + k + ")", x.answer(i, u, k), last);
                }
            }
        }
    }

    private void compareNodes() {
        for (int f = -1; f <= arities.size(); f++) {
            boolean more = true;
            for (int k = -1; more; k++) {
                for (int what = -1; what < 8; what++) {
                    same("node(" + f + ", " + k + ", " + what + ")", x.node(f, k, what), m.node(f, k, what));
                }
                more = k < 0 || m.node(f, k, 0) >= 0;
            }
        }
    }

    private void note() {
        for (int what = 0; what < 8; what++) {
            reached[what] += m.count(what) > 0 ? 1 : 0;
        }
        reached[8] += m.count(2) == 40 ? 1 : 0;
    }

    /** The runs are worth little if they never come to what is to be compared. */
    private void requireReach() {
        for (int what = 0; what < reached.length; what++) {
            check.due("reached " + what + " often", reached[what] > 20 ? 1 : 0, 1);
        }
        for (int fault = 11; fault < 20; fault++) {
            if (fault != -NarrowSolver.MANY) {
                check.due("fault -" + fault + " came often", faults[fault] > 50 ? 1 : 0, 1);
            }
        }
        StringBuilder line = new StringBuilder("reached:");
        for (long r : reached) {
            line.append(' ').append(r);
        }
        line.append("; rules and faults:");
        for (long f : faults) {
            line.append(' ').append(f);
        }
        System.out.println(line);
    }
}
