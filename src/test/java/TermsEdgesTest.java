import java.util.Arrays;

/** The section "Terms": each sentence of it that names a limit, on both sides of that limit. */
public final class TermsEdgesTest {
    private static final int Z = Programs.Z, S = Programs.S, NIL = Programs.NIL, CONS = Programs.CONS, TRIO = Programs.TRIO;
    private static final int PLUS = Programs.PLUS, IDLE = Programs.IDLE;
    private static final int ODD = NarrowSolver.ODD, SHORT = NarrowSolver.SHORT, LONG = NarrowSolver.LONG, SIDE = NarrowSolver.SIDE;
    private static final int DEEP = NarrowSolver.DEEP, TWICE = NarrowSolver.TWICE, FREE = NarrowSolver.FREE;
    private static final int MANY = NarrowSolver.MANY, OVER = NarrowSolver.OVER;
    private static final int[][] ALL_PAIRS_OF_FAULTS = {
        {ODD, SHORT, IDLE, 110, S},
        {ODD, LONG, IDLE, 7, Z, Z},
        {ODD, SIDE, Z, 110},
        {ODD, DEEP, IDLE, IDLE, 100, 255},
        {ODD, TWICE, PLUS, 100, 100, 99},
        {ODD, FREE, IDLE, 100, CONS, 101, 110},
        {ODD, OVER, PLUS, 100, 101, 7},
        {SHORT, SIDE, Z, S},
        {SHORT, DEEP, IDLE, IDLE, 100, S},
        {SHORT, TWICE, PLUS, 100, 100, S},
        {SHORT, FREE, IDLE, 100, CONS, 101},
        {SHORT, OVER, PLUS, 100, 101, S},
        {LONG, SIDE, Z, Z, Z},
        {LONG, DEEP, IDLE, IDLE, 100, Z, Z},
        {LONG, TWICE, PLUS, 100, 100, Z, Z},
        {LONG, FREE, IDLE, 100, 101, Z},
        {LONG, OVER, PLUS, 100, 101, Z, Z},
        {SIDE, DEEP, S, IDLE, 100, Z},
        {SIDE, TWICE, CONS, 100, 100, Z},
        {SIDE, FREE, S, 100, 101},
        {DEEP, TWICE, PLUS, 100, IDLE, 100, Z},
        {DEEP, TWICE, PLUS, CONS, 100, 100, IDLE, Z, Z},
        {DEEP, FREE, IDLE, IDLE, 100, 101},
        {DEEP, OVER, PLUS, 100, IDLE, 101, Z},
        {TWICE, FREE, PLUS, 100, 100, 101},
        {TWICE, OVER, PLUS, 100, 100, Z},
        {FREE, OVER, PLUS, 100, 101, 102},
    };
    private final Check check = new Check();

    public static void main(String[] args) {
        TermsEdgesTest test = new TermsEdgesTest();
        test.constructorsOfNoneToThree();
        test.functionsOfOneToThree();
        test.tapeOf120AsRule();
        test.tapeOf120AsProblem();
        test.fortyRules();
        test.numberThatIsOdd();
        test.numberThatBecomesASymbol();
        test.tapeThatIsShort();
        test.tapeThatIsLong();
        test.sideWithoutFunction();
        test.functionThatIsDeep();
        test.variableTwice();
        test.variableFree();
        test.twoFaultsAtOnce();
        test.twoFaultsAtOnceWithMany();
        test.faultBehindTheLastTerm();
        test.treeOfOneRuleWithoutConstructors();
        test.noVariableThatAllHave();
        test.sameLeftSideTwice();
        test.branchOfEightArguments();
        test.branchOfEightArgumentsAtEachPlace();
        test.variableOfNineArguments();
        test.check.end();
    }

    private void rule(String about, int want, int... numbers) {
        NarrowSolver x = Programs.numbers();
        check.due(about + ": rule() of " + Arrays.toString(numbers), Check.rule(x, numbers), want);
        check.due(about + ": RULES", x.count(1), want < 0 ? 2 : 3);
    }

    private void constructorsOfNoneToThree() {
        NarrowSolver x = new NarrowSolver();
        check.due("a CONSTRUCTOR of -1", x.symbol(false, -1), NarrowSolver.BAD);
        for (int arguments = 0; arguments <= 3; arguments++) {
            check.due("a CONSTRUCTOR of " + arguments, x.symbol(false, arguments), arguments);
        }
        check.due("a CONSTRUCTOR of 4", x.symbol(false, 4), NarrowSolver.BAD);
        check.due("none came of the others", x.count(0), 4);
        for (int c = 0; c <= 3; c++) {
            hasArguments(x, c, c);
        }
    }

    private void functionsOfOneToThree() {
        NarrowSolver x = new NarrowSolver();
        check.due("a FUNCTION of -1", x.symbol(true, -1), NarrowSolver.BAD);
        check.due("a FUNCTION of 0", x.symbol(true, 0), NarrowSolver.BAD);
        for (int arguments = 1; arguments <= 3; arguments++) {
            check.due("a FUNCTION of " + arguments, x.symbol(true, arguments), arguments - 1);
        }
        check.due("a FUNCTION of 4", x.symbol(true, 4), NarrowSolver.BAD);
        check.due("none came of the others", x.count(0), 3);
        for (int f = 0; f < 3; f++) {
            hasArguments(x, f, f + 1);
        }
    }

    /** One argument less leaves a term without its end, one more is a third term. */
    private void hasArguments(NarrowSolver x, int symbol, int arguments) {
        for (int given = Math.max(0, arguments - 1); given <= arguments + 1; given++) {
            int[] numbers = new int[2 + given];
            Arrays.fill(numbers, 100);
            numbers[1] = symbol;
            int want = given == arguments ? 1 : SHORT;
            check.due("symbol " + symbol + " of " + arguments + " with " + given, Check.problem(x, numbers), want);
        }
    }

    private void tapeOf120AsRule() {
        NarrowSolver x = Programs.numbers();
        check.due("120 numbers", Check.feed(x, Programs.join(Programs.of(IDLE, 100), Programs.tower(118))), 120);
        check.due("one above", x.feed(Z, 1), NarrowSolver.FULL);
        check.due("rule() of 120", x.rule(), 2);
        Check.problem(x, IDLE, Z, 101);
        x.solve(1);
        check.due("SIZE with all of its right side", x.waiting(0, 1), 118 + 1 + 10);
        check.due("its last number", x.waiting(0, 3 + 117), Z);
        check.due("what stands behind it", x.waiting(0, 3 + 118), 101);
        Check.feed(x, Programs.join(Programs.of(PLUS, NIL, 100), Programs.tower(118)));
        check.due("the last call found no room, so the term has no end", x.rule(), SHORT);
    }

    private void tapeOf120AsProblem() {
        NarrowSolver x = Programs.numbers();
        check.due("120 numbers", Check.feed(x, Programs.join(Programs.of(100), Programs.tower(119))), 120);
        check.due("one above", x.feed(Z, 1), NarrowSolver.FULL);
        check.due("problem() of 120", x.problem(), 1);
        check.due("its last number", x.waiting(0, 3 + 119), Z);
        check.due("none behind it", x.waiting(0, 3 + 120), NarrowSolver.NONE);
        int[] most = new int[120];
        Arrays.fill(most, 109);
        check.due("the most EQUATIONS", Check.problem(x, most), 60);
        check.due("the most EQUATIONS wait", x.waiting(0, 0), 60);
    }

    private void fortyRules() {
        NarrowSolver x = Programs.twenty();
        for (int c = 0; c < 19; c++) {
            Check.rule(x, 21, c, c);
        }
        check.due("39 RULES", x.count(1), 39);
        check.due("the 40th", Check.rule(x, 21, 19, 19), 39);
        check.due("the 41st", Check.rule(x, 22, 100, 100), MANY);
        check.due("40 RULES", x.count(1), 40);
        check.due("the 40th has its LEAF", x.node(21, 20, 1), 39);
        check.due("the 41st has none", x.node(22, 0, 0), NarrowSolver.NONE);
        Check.problem(x, 21, 19, 100, 22, 0, 0);
        check.due("the 40th is used", x.solve(1), 1);
        check.due("the 40th is used", x.waiting(0, 3), 19);
        x.solve(2);
        check.due("the 41st is not", x.count(5), 1);
    }

    /** Symbols up to the last one that there is, and variables 0 .. 9, whatever the number of symbols. */
    private void numberThatIsOdd() {
        for (int symbols : new int[] {0, 1, 7, 23, 24}) {
            for (int number = 0; number < 256; number++) {
                NarrowSolver x = new NarrowSolver();
                for (int s = 0; s < symbols; s++) {
                    x.symbol(false, 0);
                }
                boolean known = number < symbols || number >= 100 && number <= 109;
                String about = number + " with " + symbols + " symbols";
                check.due(about + ", as a problem's first term", Check.problem(x, number, 100), known ? 1 : ODD);
                check.due(about + ", as a problem's last term", Check.problem(x, 100, number), known ? 1 : ODD);
                check.due(about + ", as a rule's first term", Check.rule(x, number, 100), known ? SIDE : ODD);
                check.due(about + ", as a rule's second term", Check.rule(x, 100, number), known ? SIDE : ODD);
            }
        }
        rule("a symbol that is the last one", 2, IDLE, 100, IDLE, 100);
        rule("one that is not there yet", ODD, IDLE, 100, 7, 100);
        rule("variable 0", 2, IDLE, 100, 100);
        rule("a number below variable 0", ODD, IDLE, 99, 100);
        rule("variable 9", 2, IDLE, 109, 109);
        rule("a variable 10", ODD, IDLE, 110, 109);
    }

    /** What a number is counts when the tape is taken, not when it comes. */
    private void numberThatBecomesASymbol() {
        NarrowSolver x = Programs.numbers();
        Check.feed(x, 7, 100, 100);
        check.due("a symbol more while they are on the tape", x.symbol(true, 1), 7);
        check.due("a rule of it", x.rule(), 2);
        Check.feed(x, 8, 100);
        check.due("a symbol more while they are on the tape", x.symbol(false, 0), 8);
        check.due("a problem with it", x.problem(), 1);
        Check.feed(x, 9, 100);
        check.due("without the symbol", x.problem(), ODD);
    }

    private void tapeThatIsShort() {
        rule("an empty tape", SHORT);
        rule("within the first term", SHORT, IDLE);
        rule("the first term alone", SHORT, IDLE, 100);
        rule("within the second term", SHORT, IDLE, 100, S);
        rule("the last number but one of three arguments", SHORT, IDLE, 100, TRIO, Z, Z);
        rule("just whole", 2, IDLE, 100, TRIO, Z, Z, Z);
    }

    private void tapeThatIsLong() {
        rule("just whole", 2, IDLE, 100, 100);
        rule("a variable behind it", LONG, IDLE, 100, 100, 100);
        rule("a term behind it", LONG, IDLE, 100, 100, S, Z);
        rule("a term without an end behind it", LONG, IDLE, 100, 100, S);
    }

    private void sideWithoutFunction() {
        rule("a variable", SIDE, 100, 100);
        rule("a CONSTRUCTOR of none", SIDE, Z, Z);
        rule("the last CONSTRUCTOR", SIDE, TRIO, 100, 101, 102, Z);
        rule("the first FUNCTION behind it", DEEP, PLUS, IDLE, 100, 101, Z);
        rule("a FUNCTION", 2, PLUS, NIL, 101, Z);
    }

    private void functionThatIsDeep() {
        rule("as first argument", DEEP, PLUS, IDLE, 100, 101, Z);
        rule("as last argument", DEEP, PLUS, NIL, IDLE, 100, Z);
        rule("as itself once more", DEEP, IDLE, IDLE, 100, 100);
        rule("within a CONSTRUCTOR", DEEP, IDLE, TRIO, Z, Z, IDLE, 100, Z);
        rule("at the very beginning of the second one", 2, IDLE, 100, IDLE, 100);
        rule("within the second one", 2, IDLE, 100, S, PLUS, IDLE, 100, IDLE, 100);
    }

    private void variableTwice() {
        rule("side by side", TWICE, PLUS, 100, 100, Z);
        rule("the last variable", TWICE, PLUS, 109, 109, Z);
        rule("far apart", TWICE, IDLE, TRIO, 100, TRIO, 101, 102, 103, S, 100, Z);
        rule("thrice", TWICE, IDLE, TRIO, 104, 104, 104, 104);
        rule("two of them", 2, PLUS, NIL, 109, Z);
        rule("all ten of them", 2, IDLE, TRIO, TRIO, 100, 101, 102, TRIO, 103, 104, 105, TRIO, 106, 107, CONS, 108, 109, Z);
        rule("twice in the second one alone", 2, IDLE, 100, CONS, 100, 100);
    }

    private void variableFree() {
        rule("the variable itself", FREE, IDLE, 100, 101);
        rule("the next below", FREE, IDLE, 109, 108);
        rule("without any in the first one", FREE, IDLE, Z, 100);
        rule("at the very end", FREE, IDLE, CONS, 100, 101, TRIO, 100, 101, 102);
        rule("none of them is used", 2, IDLE, CONS, 100, 101, Z);
        rule("all of them are used", 2, IDLE, CONS, 109, 100, CONS, 100, 109);
    }

    private void twoFaultsAtOnce() {
        for (int[] pair : ALL_PAIRS_OF_FAULTS) {
            int[] numbers = Arrays.copyOfRange(pair, 2, pair.length);
            rule(pair[0] + " before " + pair[1], pair[0], numbers);
        }
    }

    /** With 40 rules each other fault comes first, but for OVER. */
    private void twoFaultsAtOnceWithMany() {
        NarrowSolver x = Programs.twenty();
        x.symbol(true, 2);
        for (int c = 0; c < 20; c++) {
            Check.rule(x, 21, c, c);
        }
        check.due("nothing else", Check.rule(x, 22, 100, 100), MANY);
        check.due("MANY before OVER", Check.rule(x, 21, 100, 100), MANY);
        check.due("ODD before MANY", Check.rule(x, 22, 100, 110), ODD);
        check.due("SHORT before MANY", Check.rule(x, 22, 100), SHORT);
        check.due("LONG before MANY", Check.rule(x, 22, 100, 100, 100), LONG);
        check.due("SIDE before MANY", Check.rule(x, 0, 0), SIDE);
        check.due("DEEP before MANY", Check.rule(x, 22, 22, 100, 100), DEEP);
        check.due("TWICE before MANY", Check.rule(x, 23, 100, 100, 100), TWICE);
        check.due("FREE before MANY", Check.rule(x, 22, 100, 101), FREE);
        check.due("40 RULES", x.count(1), 40);
    }

    /** From the left the end of the second term comes before what is behind it, whatever that is. */
    private void faultBehindTheLastTerm() {
        for (int behind : new int[] {7, 24, 99, 110, 127, 128, 255}) {
            rule("no number of a term is behind", LONG, IDLE, 100, 100, behind);
        }
        rule("an odd number before the end of the first term", ODD, IDLE, 110, 100, 110);
        rule("an odd number before the end of the second term", ODD, IDLE, 100, 110, 110);
        rule("an odd number where the tape would be short", ODD, IDLE, 100, CONS, 110);
    }

    private void treeOfOneRuleWithoutConstructors() {
        for (int arguments = 1; arguments <= 3; arguments++) {
            NarrowSolver x = new NarrowSolver();
            x.symbol(false, 0);
            x.symbol(true, arguments);
            int[] numbers = Arrays.copyOf(new int[] {1, 100, 101, 102}, arguments + 2);
            numbers[arguments + 1] = 0;
            check.due("no TREE before it", x.node(1, 0, 0), NarrowSolver.NONE);
            check.due("its RULE", Check.rule(x, numbers), 0);
            check.due("a LEAF", x.node(1, 0, 0), 0);
            check.due("of that RULE", x.node(1, 0, 1), 0);
            check.due("without CONSTRUCTORS", x.node(1, 0, 2), 0);
            check.due("which leads nowhere", x.node(1, 0, 3), NarrowSolver.NONE);
            check.due("and alone", x.node(1, 1, 0), NarrowSolver.NONE);
            numbers[1] = 0;
            check.due("there is no variable for a second RULE", Check.rule(x, numbers), OVER);
            check.due("so the LEAF stays", x.node(1, 0, 0), 0);
        }
    }

    private void noVariableThatAllHave() {
        NarrowSolver x = Programs.numbers();
        x.symbol(true, 3);
        int f = 7;
        check.due("the third has one in each", Check.rule(x, f, 100, Z, NIL, Z), 2);
        check.due("one in the third place is left", Check.rule(x, f, NIL, 100, Z, Z), 3);
        check.due("the BRANCH is there", x.node(f, 0, 1), 3);
        check.due("each two have one, but not all three", Check.rule(x, f, Z, NIL, 100, Z), OVER);
        check.due("no RULE came", x.count(1), 4);
        check.due("the TREE stays", x.node(f, 0, 2), 2);
        check.due("one that has it in the same place", Check.rule(x, f, Z, NIL, S, 100, Z), 4);
        check.due("the TREE has it", x.node(f, 0, 2), 3);
        x = Programs.numbers();
        check.due("within a CONSTRUCTOR", Check.rule(x, IDLE, CONS, 100, Z, Z), 2);
        check.due("the other argument", Check.rule(x, IDLE, CONS, Z, 100, Z), OVER);
        check.due("the same argument", Check.rule(x, IDLE, CONS, Z, S, 100, Z), 3);
        check.due("another CONSTRUCTOR outside has no part in it", Check.rule(x, IDLE, S, 100, Z), 4);
    }

    private void sameLeftSideTwice() {
        NarrowSolver x = Programs.numbers();
        check.due("variables alone", Check.rule(x, IDLE, 100, Z), 2);
        check.due("the same", Check.rule(x, IDLE, 100, Z), OVER);
        check.due("variables apart the same", Check.rule(x, IDLE, 105, S, 105), OVER);
        check.due("CONSTRUCTORS", Check.rule(x, PLUS, NIL, CONS, Z, 100, Z), 3);
        check.due("the same", Check.rule(x, PLUS, NIL, CONS, Z, 100, Z), OVER);
        check.due("variables apart the same", Check.rule(x, PLUS, NIL, CONS, Z, 109, 109), OVER);
        check.due("another CONSTRUCTOR at one place", Check.rule(x, PLUS, NIL, CONS, S, 100, 109, 109), 4);
    }

    private void branchOfEightArguments() {
        for (int depth = 7; depth <= 9; depth++) {
            int[] left = Programs.join(Programs.of(IDLE), Programs.tower(depth), Programs.of(Z));
            rule("a CONSTRUCTOR of none under " + depth, depth <= 8 ? 2 : OVER, left);
        }
        NarrowSolver x = Programs.numbers();
        Check.rule(x, Programs.join(Programs.of(IDLE), Programs.tower(8), Programs.of(Z)));
        check.due("the PLACE", x.node(IDLE, 7, 1), 11111111);
        check.due("its LEAF", x.node(IDLE, 8, 0), 0);
        Check.problem(x, Programs.join(Programs.of(IDLE), Programs.tower(8), Programs.of(Z)));
        check.due("all eight are looked at", x.solve(2), 2);
        check.due("all eight are looked at", x.solutions(), 1);
        Check.problem(x, IDLE, S, S, S, S, S, S, S, NIL, Z);
        check.due("the eighth is another one", x.solve(2), 1);
        check.due("the eighth is another one", x.count(5), 1);
        check.due("a deeper one beside it", Check.rule(x, IDLE, S, S, S, S, S, S, S, S, Z, Z), OVER);
        check.due("the TREE stays", x.node(IDLE, 7, 2), 1);
        check.due("one as deep beside it", Check.rule(x, IDLE, S, S, S, S, S, S, S, NIL, Z), 3);
        check.due("the TREE has it", x.node(IDLE, 7, 2), 2);
    }

    private void branchOfEightArgumentsAtEachPlace() {
        for (int depth = 8; depth <= 9; depth++) {
            for (int argument = 1; argument <= 3; argument++) {
                NarrowSolver x = new NarrowSolver();
                x.symbol(false, 0);
                x.symbol(false, 3);
                x.symbol(true, 3);
                int[] left = {0};
                for (int level = depth; level > 0; level--) {
                    left = among(level == 1 ? 2 : 1, argument, left);
                }
                String about = "argument " + argument + " of " + depth;
                check.due(about, Check.rule(x, Programs.join(left, Programs.of(0))), depth == 8 ? 0 : OVER);
                check.due(about + ": its BRANCH", branchesAt(x, 11111111 * argument), depth == 8 ? 1 : 0);
            }
        }
    }

    /** A symbol of three arguments, one of which is the inner term, and the others symbol 0. */
    private static int[] among(int symbol, int argument, int[] inner) {
        int[] before = new int[argument];
        before[0] = symbol;
        return Programs.join(before, inner, new int[3 - argument]);
    }

    private static int branchesAt(NarrowSolver x, int place) {
        int found = 0;
        for (int k = 0; x.node(2, k, 0) >= 0; k++) {
            found += x.node(2, k, 0) == 1 && x.node(2, k, 1) == place ? 1 : 0;
        }
        return found;
    }

    /** Only a branch may not lie so deep: what is a variable there makes none. */
    private void variableOfNineArguments() {
        for (int depth = 8; depth <= 10; depth++) {
            int[] left = Programs.tower(depth);
            left[depth - 1] = 100;
            rule("a variable under " + depth, depth <= 9 ? 2 : OVER, Programs.join(Programs.of(IDLE), left, Programs.of(100)));
        }
        NarrowSolver x = Programs.numbers();
        Check.rule(x, IDLE, S, S, S, S, S, S, S, S, 100, 100);
        Check.problem(x, IDLE, S, S, S, S, S, S, S, S, NIL, NIL);
        check.due("what stands there is taken", x.solve(5), 2);
        check.due("what stands there is taken", x.solutions(), 1);
        check.due("it goes with a second RULE at eight", Check.rule(x, IDLE, S, S, S, S, S, S, S, Z, Z), 3);
        check.due("but not at nine", Check.rule(x, IDLE, S, S, S, S, S, S, S, S, Z, Z), OVER);
    }
}
