import java.util.ArrayList;

/** A small functional logic language: rules over constructors, equations solved by needed narrowing. */
public final class NarrowSolver {
    public static final int NONE = -1, BAD = -2, FULL = -3;
    public static final int ODD = -11, SHORT = -12, LONG = -13, SIDE = -14, DEEP = -15, TWICE = -16, FREE = -17, MANY = -18, OVER = -19;

    private static final int SYMBOL_ROOM = 24, MOST_ARGUMENTS = 3;
    private static final int TAPE_ROOM = 120, MOST_FED = 7;
    private static final int RULE_ROOM = 40, NO_FAULT = 0;
    private static final int VARIABLE = 100, UNKNOWNS = 10;
    private static final int MOST_SIZE = 300, LAST_FRESH = 80, MOST_STEPS = 2000;
    private static final int ROW_ROOM = 40, SOLUTION_ROOM = 30;
    private static final int MOST_DEPTH = 8, HIGHEST_DIGIT = 10_000_000;

    private final Symbols symbols;
    private final Numbers tape;
    private final Rules rules;
    private final Solver solver;

    public NarrowSolver() {
        symbols = new Symbols();
        tape = new Numbers(TAPE_ROOM);
        rules = new Rules(symbols);
        solver = new Solver(symbols, rules);
    }

    public int clear() {
        int before = symbols.size;
        symbols.size = 0;
        tape.empty();
        rules.empty();
        solver.empty();
        return before;
    }

    public int symbol(boolean function, int arguments) {
        int least = function ? 1 : 0;
        if (arguments < least || arguments > MOST_ARGUMENTS) {
            return BAD;
        }
        return symbols.add(function, arguments);
    }

    public int feed(long w, int n) {
        if (n < 1 || n > MOST_FED) {
            return BAD;
        }
        if (tape.size + n > TAPE_ROOM) {
            return FULL;
        }
        for (int i = 0; i < n; i++) {
            tape.put((int) (w >>> (8 * i)) & 255);
        }
        return tape.size;
    }

    public int rule() {
        int split = endOnTape(0);
        int answer = split < 0 ? split : faultOfRule(split);
        if (answer == NO_FAULT) {
            answer = rules.add(tape, split);
        }
        tape.empty();
        return answer;
    }

    public int problem() {
        int equations = equationsOnTape();
        if (equations >= 0) {
            solver.begin(tape, equations);
        }
        tape.empty();
        return equations;
    }

    public int solve(int n) {
        if (n < 1 || n > MOST_STEPS) {
            return BAD;
        }
        int done = 0;
        while (done < n && solver.row.size > 0) {
            solver.step();
            done++;
        }
        return done;
    }

    public int solutions() {
        return solver.solved.size;
    }

    public int answer(int i, int unknown, int k) {
        Problem solution = solver.solved.at(i);
        if (solution == null || unknown < 0 || unknown >= UNKNOWNS || k < 0) {
            return NONE;
        }
        int from = solution.equationsEnd;
        for (int u = 0; u < unknown; u++) {
            from = symbols.endOfTerm(solution.numbers, from);
        }
        int length = symbols.endOfTerm(solution.numbers, from) - from;
        return k < length ? solution.numbers.at(from + k) : NONE;
    }

    public int node(int f, int k, int what) {
        if (!symbols.isFunction(f) || what < 0) {
            return BAD;
        }
        Tree tree = rules.treeOf(f);
        Node found = tree == null ? null : tree.at(k);
        if (found == null) {
            return NONE;
        }
        switch (what) {
            case 0: return found.isLeaf() ? 0 : 1;
            case 1: return found.isLeaf() ? found.leafRule : found.place;
            case 2: return found.children;
            default: return found.numberOfChild(what - 3);
        }
    }

    public int waiting(int i, int what) {
        if (what < 0) {
            return BAD;
        }
        Problem found = solver.row.at(i);
        if (found == null) {
            return NONE;
        }
        switch (what) {
            case 0: return found.equations;
            case 1: return found.numbers.size;
            case 2: return found.fresh;
            default: return what - 3 < found.equationsEnd ? found.numbers.at(what - 3) : NONE;
        }
    }

    public int count(int what) {
        switch (what) {
            case 0: return symbols.size;
            case 1: return rules.size;
            case 2: return solver.row.size;
            case 3: return solver.solved.size;
            case 4: return solver.steps;
            case 5: return solver.failed;
            case 6: return solver.rewritten;
            case 7: return solver.lost;
            case 8: return tape.size;
            default: return BAD;
        }
    }

    /** The index behind the term of the tape that begins at from, or ODD or SHORT. */
    private int endOnTape(int from) {
        int missing = 1;
        for (int i = from; i < tape.size; i++) {
            int number = tape.at(i);
            boolean unknown = number >= VARIABLE && number < VARIABLE + UNKNOWNS;
            if (!unknown && !symbols.has(number)) {
                return ODD;
            }
            missing += symbols.argumentsOf(number) - 1;
            if (missing == 0) {
                return i + 1;
            }
        }
        return SHORT;
    }

    private int equationsOnTape() {
        int terms = 0;
        int at = 0;
        while (at < tape.size && terms < TAPE_ROOM) {
            at = endOnTape(at);
            if (at < 0) {
                return at;
            }
            terms++;
        }
        return terms % 2 == 0 ? terms / 2 : SHORT;
    }

    /** The first fault of the tape as a rule whose right side begins at split, but for MANY and OVER. */
    private int faultOfRule(int split) {
        int end = endOnTape(split);
        if (end < 0) {
            return end;
        }
        if (end < tape.size) {
            return LONG;
        }
        if (!symbols.isFunction(tape.at(0))) {
            return SIDE;
        }
        for (int i = 1; i < split; i++) {
            if (symbols.isFunction(tape.at(i))) {
                return DEEP;
            }
        }
        return faultOfVariables(split);
    }

    private int faultOfVariables(int split) {
        int seen = 0;
        for (int i = 1; i < split; i++) {
            int bit = variableBit(tape.at(i));
            if ((seen & bit) != 0) {
                return TWICE;
            }
            seen |= bit;
        }
        for (int i = split; i < tape.size; i++) {
            if ((variableBit(tape.at(i)) & ~seen) != 0) {
                return FREE;
            }
        }
        return NO_FAULT;
    }

    private static int variableBit(int number) {
        return isVariable(number) ? 1 << (number - VARIABLE) : 0;
    }

    private static boolean isVariable(int number) {
        return number >= VARIABLE;
    }

    /** Numbers one behind the other; those beyond the room are counted, but not kept. */
    private static final class Numbers {
        private final int[] cells;
        private int size;

        Numbers(int room) {
            cells = new int[room > 0 ? room : 0];
        }

        void empty() {
            size = 0;
        }

        boolean isOver() {
            return size > cells.length;
        }

        int at(int i) {
            return i >= 0 && i < size && i < cells.length ? cells[i] : NONE;
        }

        void put(int number) {
            if (size >= 0 && size < cells.length) {
                cells[size] = number;
            }
            size++;
        }

        /** Stops once it is over: how far over is never asked, and a right side could go on for long. */
        void putAll(Numbers others, int from, int to) {
            for (int i = from; i < to && !isOver(); i++) {
                put(others.at(i));
            }
        }

        void set(int i, int number) {
            if (i >= 0 && i < size && i < cells.length) {
                cells[i] = number;
            }
        }

        void insert(int at, int number) {
            if (at < 0 || at > size || size >= cells.length) {
                return;
            }
            System.arraycopy(cells, at, cells, at + 1, size - at);
            cells[at] = number;
            size++;
        }

        void remove(int at) {
            if (at < 0 || at >= size || size > cells.length) {
                return;
            }
            System.arraycopy(cells, at + 1, cells, at, size - at - 1);
            size--;
        }
    }

    private static final class Symbols {
        private final int[] arguments = new int[SYMBOL_ROOM];
        private final boolean[] functions = new boolean[SYMBOL_ROOM];
        private int size;

        int add(boolean isFunction, int howMany) {
            if (size < 0 || size >= SYMBOL_ROOM) {
                return FULL;
            }
            functions[size] = isFunction;
            arguments[size] = howMany;
            size++;
            return size - 1;
        }

        boolean has(int number) {
            return number >= 0 && number < size;
        }

        boolean isFunction(int number) {
            return number >= 0 && number < size && functions[number];
        }

        /** Variables have none, so that terms can be walked without asking what a number is. */
        int argumentsOf(int number) {
            return number >= 0 && number < size ? arguments[number] : 0;
        }

        int endOfTerm(Numbers numbers, int from) {
            int missing = 1;
            int i = from;
            while (missing > 0 && i < numbers.size) {
                missing += argumentsOf(numbers.at(i)) - 1;
                i++;
            }
            return i;
        }

        /** Where the term stands that a place tells within the term at from. */
        int follow(Numbers numbers, int from, int place) {
            int at = from;
            for (int unit = HIGHEST_DIGIT; unit > 0; unit /= 10) {
                int argument = place / unit % 10;
                at += argument > 0 ? 1 : 0;
                for (int a = 1; a < argument; a++) {
                    at = endOfTerm(numbers, at);
                }
            }
            return at;
        }
    }

    private static final class Rule {
        private final Numbers left;
        private final Numbers right;

        Rule(Numbers written, int split) {
            left = new Numbers(split);
            right = new Numbers(written.size - split);
            left.putAll(written, 0, split);
            right.putAll(written, split, written.size);
        }
    }

    /** The rules, and for each function the tree made of its own. */
    private static final class Rules {
        private final Rule[] list = new Rule[RULE_ROOM];
        private final Tree[] trees = new Tree[SYMBOL_ROOM];
        private final TreeMaker maker;
        private Tree spare = new Tree();
        private int size;

        Rules(Symbols symbols) {
            maker = new TreeMaker(symbols, list);
        }

        void empty() {
            size = 0;
            for (int f = 0; f < trees.length; f++) {
                if (trees[f] != null) {
                    trees[f].size = 0;
                }
            }
        }

        Rule at(int i) {
            return i >= 0 && i < size && i < list.length ? list[i] : null;
        }

        Tree treeOf(int function) {
            return function >= 0 && function < trees.length ? trees[function] : null;
        }

        /** The new tree is made beside the old one, which stays if there is none with the rule. */
        int add(Numbers written, int split) {
            if (size < 0 || size >= list.length) {
                return MANY;
            }
            int function = written.at(0);
            list[size] = new Rule(written, split);
            if (function < 0 || function >= trees.length || !maker.make(spare, function, rulesOf(function))) {
                list[size] = null;
                return OVER;
            }
            Tree old = trees[function];
            trees[function] = spare;
            spare = old == null ? new Tree() : old;
            size++;
            return size - 1;
        }

        /** A bit for each rule of a function, the one that is being added too. */
        private long rulesOf(int function) {
            long chosen = 0;
            for (int i = 0; i <= size && i < list.length; i++) {
                if (list[i] != null && list[i].left.at(0) == function) {
                    chosen |= 1L << i;
                }
            }
            return chosen;
        }
    }

    private static final class Node {
        private int number;
        private int constructor;
        private int place;
        private int leafRule;
        private int children;
        private Node firstChild;
        private Node next;
        // these are of use only while the tree is made
        private long chosen;
        private int position;
        private Node parent;
        private Node lastChild;

        boolean isLeaf() {
            return place == 0;
        }

        Node childFor(int wanted) {
            Node child = firstChild;
            while (child != null && child.constructor != wanted) {
                child = child.next;
            }
            return child;
        }

        int numberOfChild(int i) {
            if (i < 0 || i >= children) {
                return NONE;
            }
            Node child = firstChild;
            for (int c = 0; c < i && child != null; c++) {
                child = child.next;
            }
            return child == null ? NONE : child.number;
        }

        void append(Node child) {
            if (lastChild == null) {
                firstChild = child;
            } else {
                lastChild.next = child;
            }
            lastChild = child;
            children++;
        }
    }

    /** The nodes of a tree by their numbers; those beyond its size are kept for a later tree. */
    private static final class Tree {
        private final ArrayList<Node> nodes = new ArrayList<>();
        private int size;

        Node at(int k) {
            return k >= 0 && k < size && k < nodes.size() ? nodes.get(k) : null;
        }

        Node add(int constructor, long chosen, Node parent) {
            if (size >= nodes.size()) {
                nodes.add(new Node());
                size = nodes.size() - 1;
            }
            Node node = nodes.get(size);
            node.number = size;
            node.constructor = constructor;
            node.place = 0;
            node.leafRule = NONE;
            node.children = 0;
            node.firstChild = null;
            node.next = null;
            node.chosen = chosen;
            node.position = 0;
            node.parent = parent;
            node.lastChild = null;
            size++;
            return node;
        }
    }

    /** Makes trees without recursion: a chain of single rules could be over a hundred nodes deep. */
    private static final class TreeMaker {
        private static final int MOST_MOVES = 2 * RULE_ROOM * TAPE_ROOM;

        private final Symbols symbols;
        private final Rule[] list;
        private final Numbers pattern = new Numbers(TAPE_ROOM);
        private final boolean[] shut = new boolean[TAPE_ROOM];

        TreeMaker(Symbols symbols, Rule[] list) {
            this.symbols = symbols;
            this.list = list;
        }

        /** False if the chosen rules of a function have no tree. */
        boolean make(Tree tree, int function, long chosen) {
            tree.size = 0;
            pattern.empty();
            pattern.put(VARIABLE);
            unfold(0, function);
            Node open = tree.add(NONE, chosen, null);
            if (!settle(open)) {
                return false;
            }
            for (int i = 0; i < MOST_MOVES && open != null; i++) {
                Node child = open.isLeaf() ? null : growChild(tree, open);
                if (child != null && !settle(child)) {
                    return false;
                }
                open = child == null ? open.parent : child;
            }
            return open == null;
        }

        /** Makes the node a leaf or a branch; false if it can be neither. */
        private boolean settle(Node node) {
            int position = firstBranch(node.chosen);
            if (position == NONE) {
                node.leafRule = Long.numberOfTrailingZeros(node.chosen);
                return Long.bitCount(node.chosen) == 1;
            }
            node.position = position;
            node.place = placeOf(position);
            return node.place != NONE;
        }

        /** The next child of a branch, with the pattern made its own; null, and the pattern as before, if there is none. */
        private Node growChild(Tree tree, Node open) {
            int before = NONE;
            if (open.lastChild != null) {
                before = open.lastChild.constructor;
                fold(open.position);
            }
            int constructor = leastBehind(before, open);
            if (constructor == NONE) {
                return null;
            }
            Node child = tree.add(constructor, rulesWith(constructor, open), open);
            open.append(child);
            unfold(open.position, constructor);
            return child;
        }

        private void unfold(int position, int symbol) {
            pattern.set(position, symbol);
            for (int a = 0; a < symbols.argumentsOf(symbol); a++) {
                pattern.insert(position + 1, VARIABLE);
            }
        }

        private void fold(int position) {
            int howMany = symbols.argumentsOf(pattern.at(position));
            for (int a = 0; a < howMany; a++) {
                pattern.remove(position + 1);
            }
            pattern.set(position, VARIABLE);
        }

        /** Where in the pattern the first variable stands for which all the chosen rules have a constructor. */
        private int firstBranch(long chosen) {
            for (int i = 0; i < shut.length; i++) {
                shut[i] = !isVariable(pattern.at(i));
            }
            for (int r = 0; r < list.length; r++) {
                if ((chosen >> r & 1) != 0 && list[r] != null) {
                    shutVariables(list[r].left);
                }
            }
            for (int i = 0; i < shut.length; i++) {
                if (!shut[i]) {
                    return i;
                }
            }
            return NONE;
        }

        private void shutVariables(Numbers left) {
            int at = 0;
            for (int i = 0; i < pattern.size && i < shut.length; i++) {
                if (isVariable(pattern.at(i))) {
                    if (isVariable(left.at(at))) {
                        shut[i] = true;
                    }
                    at = symbols.endOfTerm(left, at);
                } else {
                    at++;
                }
            }
        }

        /** What a left side has in place of what stands at a position of the pattern. */
        private int standsIn(Numbers left, int position) {
            int at = 0;
            for (int i = 0; i < position; i++) {
                at = isVariable(pattern.at(i)) ? symbols.endOfTerm(left, at) : at + 1;
            }
            return left.at(at);
        }

        private int leastBehind(int before, Node open) {
            int least = NONE;
            for (int r = 0; r < list.length; r++) {
                if ((open.chosen >> r & 1) != 0 && list[r] != null) {
                    int constructor = standsIn(list[r].left, open.position);
                    if (constructor > before && (least == NONE || constructor < least)) {
                        least = constructor;
                    }
                }
            }
            return least;
        }

        private long rulesWith(int constructor, Node open) {
            long found = 0;
            for (int r = 0; r < list.length; r++) {
                boolean chosen = (open.chosen >> r & 1) != 0 && list[r] != null;
                if (chosen && standsIn(list[r].left, open.position) == constructor) {
                    found |= 1L << r;
                }
            }
            return found;
        }

        /** The place of a position of the pattern, or NONE if it lies too deep. */
        private int placeOf(int position) {
            int place = 0;
            int at = 0;
            for (int depth = 1; depth <= MOST_DEPTH; depth++) {
                int argument = 1;
                at++;
                for (int end = symbols.endOfTerm(pattern, at); end <= position && argument < MOST_ARGUMENTS; argument++) {
                    at = end;
                    end = symbols.endOfTerm(pattern, at);
                }
                place = place * 10 + argument;
                if (at == position) {
                    return place;
                }
            }
            return NONE;
        }
    }

    /** Equations and, behind them, the answer's terms, all in one row of numbers, which is thus as long as the SIZE. */
    private static final class Problem {
        private final Numbers numbers = new Numbers(MOST_SIZE);
        private int equations;
        private int equationsEnd;
        private int fresh;

        boolean isLost() {
            return numbers.isOver() || fresh - 1 > LAST_FRESH;
        }
    }

    /** A ring of problems that keeps those that went, so that their room is used again. */
    private static final class Row {
        private final Problem[] slots;
        private int first;
        private int size;

        Row(int room) {
            slots = new Problem[room > 0 ? room : 1];
        }

        void empty() {
            first = 0;
            size = 0;
        }

        boolean isFull() {
            return size >= slots.length;
        }

        Problem at(int i) {
            return i >= 0 && i < size ? slots[(first + i) % slots.length] : null;
        }

        /** Puts a problem behind the others; answers another one that is free for use, or null if none is. */
        Problem append(Problem last) {
            if (isFull()) {
                return last;
            }
            int slot = (first + size) % slots.length;
            Problem old = slots[slot];
            slots[slot] = last;
            size++;
            return old;
        }

        /** Takes the first problem out, and leaves the spare one in its slot for later use. */
        Problem takeFirst(Problem spare) {
            if (size <= 0 || slots[first] == null) {
                return spare;
            }
            Problem taken = slots[first];
            slots[first] = spare;
            first = (first + 1) % slots.length;
            size--;
            return taken;
        }
    }

    private static final class Solver {
        private static final int MOST_MOVES = MOST_SIZE * TAPE_ROOM;

        private final Symbols symbols;
        private final Rules rules;
        private final Row row = new Row(ROW_ROOM);
        private final Row solved = new Row(SOLUTION_ROOM);
        private final Numbers boundTo = new Numbers(1 + MOST_ARGUMENTS);
        private final int[] matched = new int[UNKNOWNS];
        private Problem current = new Problem();
        private Problem draft = new Problem();
        private int boundVariable = NONE;
        private int steps;
        private int failed;
        private int rewritten;
        private int lost;

        Solver(Symbols symbols, Rules rules) {
            this.symbols = symbols;
            this.rules = rules;
        }

        void empty() {
            row.empty();
            solved.empty();
            steps = 0;
            failed = 0;
            rewritten = 0;
            lost = 0;
        }

        void begin(Numbers written, int equations) {
            empty();
            draft.numbers.empty();
            draft.numbers.putAll(written, 0, written.size);
            draft.equations = equations;
            draft.equationsEnd = written.size;
            draft.fresh = UNKNOWNS;
            for (int u = 0; u < UNKNOWNS; u++) {
                draft.numbers.put(VARIABLE + u);
            }
            deliver();
        }

        void step() {
            current = row.takeFirst(current);
            steps++;
            int right = symbols.endOfTerm(current.numbers, 0);
            boolean done;
            if (symbols.isFunction(current.numbers.at(0))) {
                done = workOn(0);
            } else if (symbols.isFunction(current.numbers.at(right))) {
                done = workOn(right);
            } else {
                done = unify(right);
            }
            if (!done) {
                failed++;
            }
        }

        /** A step of an equation without a function at the beginning of its sides; false if it fails. */
        private boolean unify(int right) {
            int s = current.numbers.at(0);
            int t = current.numbers.at(right);
            int end = symbols.endOfTerm(current.numbers, right);
            startDraft();
            if (s != t && isVariable(s)) {
                if (standsOpenly(s, right, end)) {
                    return false;
                }
                bind(s, t);
            } else if (s != t && isVariable(t)) {
                if (standsOpenly(t, 0, right)) {
                    return false;
                }
                bind(t, s);
            } else if (s != t) {
                return false;
            }
            putArguments(right, isVariable(s) ? t : s);
            finishDraft(end);
            deliver();
            return true;
        }

        /** Whether a variable stands in a term, but not within a function there. */
        private boolean standsOpenly(int variable, int from, int to) {
            int hiddenTo = from;
            for (int i = from; i < to; i++) {
                int number = current.numbers.at(i);
                if (i >= hiddenTo && symbols.isFunction(number)) {
                    hiddenTo = symbols.endOfTerm(current.numbers, i);
                } else if (i >= hiddenTo && number == variable) {
                    return true;
                }
            }
            return false;
        }

        /** Puts the equations of both sides' arguments; without any, the equation just goes. */
        private void putArguments(int right, int head) {
            int howMany = symbols.argumentsOf(head);
            int s = 1;
            int t = right + 1;
            for (int a = 1; a <= howMany; a++) {
                s = putArgument(0, s, a);
                t = putArgument(right, t, a);
            }
            draft.equations += howMany - 1;
        }

        /** Puts a side's argument that begins at from, and answers where the next one begins. */
        private int putArgument(int side, int from, int argument) {
            if (isVariable(current.numbers.at(side))) {
                draft.numbers.put(boundTo.at(argument));
                return from;
            }
            int end = symbols.endOfTerm(current.numbers, from);
            copyBound(from, end);
            return end;
        }

        /** Works on the function's term at start; false if that fails. */
        private boolean workOn(int start) {
            int at = start;
            Node node = rootFor(at);
            for (int i = 0; i < MOST_MOVES && node != null; i++) {
                if (node.isLeaf()) {
                    return rewrite(at, rules.at(node.leafRule));
                }
                int needed = symbols.follow(current.numbers, at, node.place);
                int number = current.numbers.at(needed);
                if (isVariable(number)) {
                    narrow(number, node);
                    return true;
                }
                if (symbols.isFunction(number)) {
                    at = needed;
                    node = rootFor(at);
                } else {
                    node = node.childFor(number);
                }
            }
            return false;
        }

        private Node rootFor(int at) {
            Tree tree = rules.treeOf(current.numbers.at(at));
            return tree == null ? null : tree.at(0);
        }

        private void narrow(int variable, Node branch) {
            Node child = branch.firstChild;
            while (child != null) {
                startDraft();
                bind(variable, child.constructor);
                finishDraft(0);
                deliver();
                child = child.next;
            }
        }

        private boolean rewrite(int at, Rule used) {
            if (used == null) {
                return false;
            }
            rewritten++;
            int end = match(at, used.left);
            startDraft();
            draft.numbers.putAll(current.numbers, 0, at);
            for (int i = 0; i < used.right.size; i++) {
                int number = used.right.at(i);
                int v = number - VARIABLE;
                if (v >= 0 && v < matched.length) {
                    int from = matched[v];
                    draft.numbers.putAll(current.numbers, from, symbols.endOfTerm(current.numbers, from));
                } else {
                    draft.numbers.put(number);
                }
            }
            finishDraft(end);
            deliver();
            return true;
        }

        /** Notes where what stands in place of a left side's variables begins; answers the index behind the term. */
        private int match(int at, Numbers left) {
            int i = at;
            for (int k = 0; k < left.size; k++) {
                int v = left.at(k) - VARIABLE;
                if (v >= 0 && v < matched.length) {
                    matched[v] = i;
                    i = symbols.endOfTerm(current.numbers, i);
                } else {
                    i++;
                }
            }
            return i;
        }

        private void startDraft() {
            draft.numbers.empty();
            draft.equations = current.equations;
            draft.fresh = current.fresh;
            boundVariable = NONE;
        }

        /** From now on copyBound puts a variable, or a constructor with fresh ones, instead of the variable. */
        private void bind(int variable, int head) {
            boundVariable = variable;
            boundTo.empty();
            boundTo.put(head);
            for (int a = 0; a < symbols.argumentsOf(head); a++) {
                boundTo.put(VARIABLE + draft.fresh);
                draft.fresh++;
            }
        }

        private void copyBound(int from, int to) {
            for (int i = from; i < to; i++) {
                int number = current.numbers.at(i);
                if (number == boundVariable) {
                    draft.numbers.putAll(boundTo, 0, boundTo.size);
                } else {
                    draft.numbers.put(number);
                }
            }
        }

        /** Copies what stands from an index on, the answer too. */
        private void finishDraft(int from) {
            copyBound(from, current.equationsEnd);
            draft.equationsEnd = draft.numbers.size;
            copyBound(current.equationsEnd, current.numbers.size);
        }

        private void deliver() {
            Row target = draft.equations == 0 ? solved : row;
            if (draft.isLost() || target.isFull()) {
                lost++;
            } else {
                Problem free = target.append(draft);
                draft = free == null ? new Problem() : free;
            }
        }
    }
}
