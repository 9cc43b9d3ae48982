/** What the tests have in common: notes wrong answers, and writes terms on a solver's tape. */
final class Check {
    private int wrong = 0;
    private int calls = 0;

    void due(String call, long got, long want) {
        calls++;
        if (got != want) {
            wrong++;
            System.out.println(call + " answered " + got + ", due is " + want);
        }
    }

    void end() {
        System.out.println(wrong == 0 ? calls + " answers are as due" : wrong + " of " + calls + " answers are not as due");
        if (wrong != 0) {
            System.exit(1);
        }
    }

    /** Feeds numbers in as few calls as there can be; the last call's answer. */
    static int feed(NarrowSolver x, int... numbers) {
        int answer = 0;
        for (int at = 0; at < numbers.length; at += 7) {
            long w = 0;
            int n = Math.min(7, numbers.length - at);
            for (int i = n - 1; i >= 0; i--) {
                w = w << 8 | numbers[at + i];
            }
            answer = x.feed(w, n);
        }
        return answer;
    }

    static int rule(NarrowSolver x, int... numbers) {
        feed(x, numbers);
        return x.rule();
    }

    static int problem(NarrowSolver x, int... numbers) {
        feed(x, numbers);
        return x.problem();
    }

    /** All equations of a waiting problem have just these numbers. */
    void waits(String about, NarrowSolver x, int i, int... numbers) {
        for (int k = 0; k < numbers.length; k++) {
            due(about + ": waiting(" + i + ", " + (3 + k) + ")", x.waiting(i, 3 + k), numbers[k]);
        }
        due(about + ": waiting behind the equations", x.waiting(i, 3 + numbers.length), NarrowSolver.NONE);
    }

    /** A solution's term for an unknown has just these numbers. */
    void answers(String about, NarrowSolver x, int i, int unknown, int... numbers) {
        for (int k = 0; k < numbers.length; k++) {
            due(about + ": answer(" + i + ", " + unknown + ", " + k + ")", x.answer(i, unknown, k), numbers[k]);
        }
        due(about + ": answer behind the term", x.answer(i, unknown, numbers.length), NarrowSolver.NONE);
    }
}
