import java.util.ArrayDeque;
import java.util.ArrayList;
import java.util.Collections;
import java.util.HashMap;
import java.util.HashSet;
import java.util.LinkedHashMap;
import java.util.List;
import java.util.Map;
import java.util.Set;
import java.util.TreeMap;

/** The document's words once more, with terms as trees and by recursion: slow and plain, to be compared with. */
final class PlainModel {
    private static final class Term {
        final int head;
        final List<Term> arguments;

        Term(int head, List<Term> arguments) {
            this.head = head;
            this.arguments = arguments;
        }

        boolean isVariable() {
            return head >= 100;
        }

        int size() {
            int sum = 1;
            for (Term a : arguments) {
                sum += a.size();
            }
            return sum;
        }

        void write(List<Integer> out) {
            out.add(head);
            for (Term a : arguments) {
                a.write(out);
            }
        }

        Term replace(Map<Integer, Term> by) {
            if (isVariable()) {
                return by.getOrDefault(head, this);
            }
            List<Term> changed = new ArrayList<>();
            for (Term a : arguments) {
                changed.add(a.replace(by));
            }
            return new Term(head, changed);
        }

        Term at(List<Integer> path) {
            Term t = this;
            for (int i : path) {
                t = t.arguments.get(i - 1);
            }
            return t;
        }

        Term with(List<Integer> path, Term other) {
            if (path.isEmpty()) {
                return other;
            }
            List<Term> changed = new ArrayList<>(arguments);
            int i = path.get(0) - 1;
            changed.set(i, changed.get(i).with(path.subList(1, path.size()), other));
            return new Term(head, changed);
        }
    }

    private static final class Tree {
        int rule = -1;
        List<Integer> path;
        final TreeMap<Integer, Tree> branches = new TreeMap<>();

        int nodes() {
            int sum = 1;
            for (Tree t : branches.values()) {
                sum += t.nodes();
            }
            return sum;
        }

        void list(List<Tree> out) {
            out.add(this);
            for (Tree t : branches.values()) {
                t.list(out);
            }
        }
    }

    private static final class Problem {
        final List<Term[]> equations = new ArrayList<>();
        final List<Term> answer = new ArrayList<>();
        int fresh = 10;

        int size() {
            int sum = 0;
            for (Term[] e : equations) {
                sum += e[0].size() + e[1].size();
            }
            for (Term a : answer) {
                sum += a.size();
            }
            return sum;
        }

        Problem bound(int variable, Term to, int nextFresh) {
            Map<Integer, Term> by = new HashMap<>();
            by.put(variable, to);
            Problem p = new Problem();
            for (Term[] e : equations) {
                p.equations.add(new Term[] {e[0].replace(by), e[1].replace(by)});
            }
            for (Term a : answer) {
                p.answer.add(a.replace(by));
            }
            p.fresh = nextFresh;
            return p;
        }
    }

    private final List<Integer> arities = new ArrayList<>();
    private final List<Boolean> functions = new ArrayList<>();
    private final List<Integer> tape = new ArrayList<>();
    private final List<Term[]> rules = new ArrayList<>();
    private final ArrayDeque<Problem> row = new ArrayDeque<>();
    private final List<Problem> solved = new ArrayList<>();
    private int steps;
    private int failed;
    private int rewritten;
    private int lost;

    int clear() {
        int n = arities.size();
        arities.clear();
        functions.clear();
        tape.clear();
        rules.clear();
        forget();
        return n;
    }

    private void forget() {
        row.clear();
        solved.clear();
        steps = failed = rewritten = lost = 0;
    }

    int symbol(boolean function, int arguments) {
        if (arguments > 3 || arguments < 0 || function && arguments == 0) {
            return -2;
        }
        if (arities.size() == 24) {
            return -3;
        }
        arities.add(arguments);
        functions.add(function);
        return arities.size() - 1;
    }

    int feed(long w, int n) {
        if (n <= 0 || n >= 8) {
            return -2;
        }
        if (tape.size() + n > 120) {
            return -3;
        }
        long rest = w;
        for (int i = 0; i < n; i++) {
            tape.add((int) (rest & 0xff));
            rest >>>= 8;
        }
        return tape.size();
    }

    private boolean isFunction(int n) {
        return n >= 0 && n < functions.size() && functions.get(n);
    }

    private static final class Fault extends Exception {
        private static final long serialVersionUID = 1;
        final int number;

        Fault(int number) {
            this.number = number;
        }
    }

    private Term read(int[] at) throws Fault {
        if (at[0] == tape.size()) {
            throw new Fault(-12);
        }
        int n = tape.get(at[0]++);
        if (n >= 100 && n <= 109) {
            return new Term(n, List.of());
        }
        if (n >= arities.size()) {
            throw new Fault(-11);
        }
        List<Term> arguments = new ArrayList<>();
        for (int i = 0; i < arities.get(n); i++) {
            arguments.add(read(at));
        }
        return new Term(n, arguments);
    }

    int rule() {
        try {
            return readRule();
        } catch (Fault f) {
            return f.number;
        } finally {
            tape.clear();
        }
    }

    private int readRule() throws Fault {
        int[] at = {0};
        Term left = read(at);
        Term right = read(at);
        if (at[0] < tape.size()) {
            return -13;
        }
        if (!isFunction(left.head)) {
            return -14;
        }
        List<Integer> written = new ArrayList<>();
        left.write(written);
        for (int n : written.subList(1, written.size())) {
            if (isFunction(n)) {
                return -15;
            }
        }
        Set<Integer> seen = new HashSet<>();
        for (int n : written) {
            if (n >= 100 && !seen.add(n)) {
                return -16;
            }
        }
        List<Integer> other = new ArrayList<>();
        right.write(other);
        for (int n : other) {
            if (n >= 100 && !seen.contains(n)) {
                return -17;
            }
        }
        if (rules.size() == 40) {
            return -18;
        }
        rules.add(new Term[] {left, right});
        if (treeOf(left.head) == null) {
            rules.remove(rules.size() - 1);
            return -19;
        }
        return rules.size() - 1;
    }

    private Tree treeOf(int function) {
        List<Integer> own = new ArrayList<>();
        for (int r = 0; r < rules.size(); r++) {
            if (rules.get(r)[0].head == function) {
                own.add(r);
            }
        }
        return own.isEmpty() ? null : build(plain(function), own);
    }

    private Term plain(int symbol) {
        return new Term(symbol, Collections.nCopies(arities.get(symbol), new Term(100, List.of())));
    }

    private static void variables(Term t, List<Integer> path, List<List<Integer>> out) {
        if (t.isVariable()) {
            out.add(path);
        }
        for (int i = 0; i < t.arguments.size(); i++) {
            List<Integer> longer = new ArrayList<>(path);
            longer.add(i + 1);
            variables(t.arguments.get(i), longer, out);
        }
    }

    private Tree build(Term pattern, List<Integer> own) {
        List<List<Integer>> places = new ArrayList<>();
        variables(pattern, List.of(), places);
        Tree tree = new Tree();
        if (own.size() == 1) {
            Term left = rules.get(own.get(0))[0];
            if (places.stream().allMatch(p -> left.at(p).isVariable())) {
                tree.rule = own.get(0);
                return tree;
            }
        }
        for (List<Integer> place : places) {
            if (own.stream().noneMatch(r -> rules.get(r)[0].at(place).isVariable())) {
                tree.path = place;
                break;
            }
        }
        if (tree.path == null || tree.path.size() > 8) {
            return null;
        }
        TreeMap<Integer, List<Integer>> groups = new TreeMap<>();
        for (int r : own) {
            groups.computeIfAbsent(rules.get(r)[0].at(tree.path).head, k -> new ArrayList<>()).add(r);
        }
        for (Map.Entry<Integer, List<Integer>> g : groups.entrySet()) {
            Tree sub = build(pattern.with(tree.path, plain(g.getKey())), g.getValue());
            if (sub == null) {
                return null;
            }
            tree.branches.put(g.getKey(), sub);
        }
        return tree;
    }

    int problem() {
        try {
            int[] at = {0};
            List<Term> terms = new ArrayList<>();
            while (at[0] < tape.size()) {
                terms.add(read(at));
            }
            if (terms.size() % 2 == 1) {
                return -12;
            }
            forget();
            Problem p = new Problem();
            for (int i = 0; i < terms.size(); i += 2) {
                p.equations.add(new Term[] {terms.get(i), terms.get(i + 1)});
            }
            for (int u = 100; u < 110; u++) {
                p.answer.add(new Term(u, List.of()));
            }
            put(p);
            return terms.size() / 2;
        } catch (Fault f) {
            return f.number;
        } finally {
            tape.clear();
        }
    }

    private void put(Problem p) {
        if (p.size() > 300 || p.fresh > 81) {
            lost++;
        } else if (p.equations.isEmpty()) {
            if (solved.size() < 30) {
                solved.add(p);
            } else {
                lost++;
            }
        } else if (row.size() < 40) {
            row.addLast(p);
        } else {
            lost++;
        }
    }

    int solve(int n) {
        if (n < 1 || n > 2000) {
            return -2;
        }
        int done = 0;
        for (; done < n && !row.isEmpty(); done++) {
            Problem p = row.removeFirst();
            steps++;
            List<Problem> next = step(p);
            if (next == null) {
                failed++;
            } else {
                next.forEach(this::put);
            }
        }
        return done;
    }

    private List<Problem> step(Problem p) {
        Term s = p.equations.get(0)[0];
        Term t = p.equations.get(0)[1];
        if (isFunction(s.head)) {
            return work(p, 0, new ArrayList<>());
        }
        if (isFunction(t.head)) {
            return work(p, 1, new ArrayList<>());
        }
        if (s.isVariable() && t.isVariable()) {
            return List.of(rest(s.head == t.head ? p : p.bound(s.head, t, p.fresh)));
        }
        if (s.isVariable() || t.isVariable()) {
            Term variable = s.isVariable() ? s : t;
            Term other = s.isVariable() ? t : s;
            if (open(variable.head, other)) {
                return null;
            }
            return List.of(split(p.bound(variable.head, freshTerm(other.head, p), p.fresh + arities.get(other.head))));
        }
        return s.head == t.head ? List.of(split(p)) : null;
    }

    private Term freshTerm(int constructor, Problem p) {
        List<Term> arguments = new ArrayList<>();
        for (int i = 0; i < arities.get(constructor); i++) {
            arguments.add(new Term(100 + p.fresh + i, List.of()));
        }
        return new Term(constructor, arguments);
    }

    private boolean open(int variable, Term t) {
        if (t.head == variable) {
            return true;
        }
        return !isFunction(t.head) && t.arguments.stream().anyMatch(a -> open(variable, a));
    }

    private Problem rest(Problem p) {
        Problem q = new Problem();
        q.equations.addAll(p.equations.subList(1, p.equations.size()));
        q.answer.addAll(p.answer);
        q.fresh = p.fresh;
        return q;
    }

    private Problem split(Problem p) {
        Problem q = rest(p);
        Term[] first = p.equations.get(0);
        for (int i = first[0].arguments.size() - 1; i >= 0; i--) {
            q.equations.add(0, new Term[] {first[0].arguments.get(i), first[1].arguments.get(i)});
        }
        return q;
    }

    private List<Problem> work(Problem p, int side, List<Integer> path) {
        Term term = p.equations.get(0)[side].at(path);
        Tree tree = treeOf(term.head);
        while (tree != null && tree.path != null) {
            Term needed = term.at(tree.path);
            if (isFunction(needed.head)) {
                List<Integer> deeper = new ArrayList<>(path);
                deeper.addAll(tree.path);
                return work(p, side, deeper);
            }
            if (needed.isVariable()) {
                List<Problem> all = new ArrayList<>();
                for (int c : tree.branches.keySet()) {
                    all.add(p.bound(needed.head, freshTerm(c, p), p.fresh + arities.get(c)));
                }
                return all;
            }
            tree = tree.branches.get(needed.head);
        }
        if (tree == null) {
            return null;
        }
        rewritten++;
        Map<Integer, Term> by = new LinkedHashMap<>();
        Term[] rule = rules.get(tree.rule);
        List<List<Integer>> places = new ArrayList<>();
        variables(rule[0], List.of(), places);
        for (List<Integer> place : places) {
            by.put(rule[0].at(place).head, term.at(place));
        }
        Problem q = rest(p);
        Term[] first = p.equations.get(0).clone();
        first[side] = first[side].with(path, rule[1].replace(by));
        q.equations.add(0, first);
        return List.of(q);
    }

    int solutions() {
        return solved.size();
    }

    int answer(int i, int unknown, int k) {
        if (i < 0 || i >= solved.size() || unknown < 0 || unknown > 9) {
            return -1;
        }
        List<Integer> written = new ArrayList<>();
        solved.get(i).answer.get(unknown).write(written);
        return k < 0 || k >= written.size() ? -1 : written.get(k);
    }

    int node(int f, int k, int what) {
        if (!isFunction(f) || what < 0) {
            return -2;
        }
        List<Tree> nodes = new ArrayList<>();
        Tree root = treeOf(f);
        if (root != null) {
            root.list(nodes);
        }
        if (k < 0 || k >= nodes.size()) {
            return -1;
        }
        Tree tree = nodes.get(k);
        if (what == 0) {
            return tree.path == null ? 0 : 1;
        }
        if (what == 1 && tree.path != null) {
            StringBuilder digits = new StringBuilder();
            tree.path.forEach(digits::append);
            return Integer.parseInt(digits.toString());
        }
        if (what == 1) {
            return tree.rule;
        }
        if (what == 2) {
            return tree.branches.size();
        }
        int number = k + 1;
        int i = 3;
        for (Tree sub : tree.branches.values()) {
            if (i++ == what) {
                return number;
            }
            number += sub.nodes();
        }
        return -1;
    }

    int waiting(int i, int what) {
        if (what < 0) {
            return -2;
        }
        if (i < 0 || i >= row.size()) {
            return -1;
        }
        Problem p = new ArrayList<>(row).get(i);
        if (what == 0) {
            return p.equations.size();
        }
        if (what == 1) {
            return p.size();
        }
        if (what == 2) {
            return p.fresh;
        }
        List<Integer> written = new ArrayList<>();
        for (Term[] e : p.equations) {
            e[0].write(written);
            e[1].write(written);
        }
        return what - 3 < written.size() ? written.get(what - 3) : -1;
    }

    int count(int what) {
        int[] all = {arities.size(), rules.size(), row.size(), solved.size(), steps, failed, rewritten, lost, tape.size()};
        return what < 0 || what > 8 ? -2 : all[what];
    }
}
