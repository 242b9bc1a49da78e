/** Promise 8: run. */
public final class RunTest {
    private static final Check check = new Check();
    private static final int ASSIGN = FortranStatic.K_ASSIGN;
    private static final int IF = FortranStatic.K_IF;
    private static final int GOTO = FortranStatic.K_GOTO;
    private static final int DO = FortranStatic.K_DO;
    private static final int CALL = FortranStatic.K_CALL;
    private static final int PRINT = FortranStatic.K_PRINT;
    private static final int CONTINUE = FortranStatic.K_CONTINUE;
    private static final int RETURN = FortranStatic.K_RETURN;
    private static final int STOP = FortranStatic.K_STOP;
    private static final int ADD = FortranStatic.OP_ADD;
    private static final int SUB = FortranStatic.OP_SUB;
    private static final int MUL = FortranStatic.OP_MUL;
    private static final int DIV = FortranStatic.OP_DIV;
    private static final int DONE = FortranStatic.RUN_DONE;

    public static void main(String[] args) {
        refused();
        stepsAreClamped();
        stepsRunOut();
        waysToEnd();
        startsAfresh();
        arithmetic();
        divisionByZero();
        indexErrors();
        orderOfErrors();
        arithmeticIf();
        computedGoto();
        tripCounts();
        zeroTripGoesPastTheEnd();
        sharedEnds();
        jumpsIntoLoops();
        loopVariablesAreFoundAnew();
        loopStateOutlivesCalls();
        arguments();
        argumentsPassedOn();
        callsThatEndLoops();
        emptySubroutines();
        recursion();
        fullOutput();
        check.end();
    }

    private static FortranStatic fresh() {
        return new FortranStatic(64, 32);
    }

    private static void refused() {
        FortranStatic f = fresh();
        check.add(f, 0, 0, PRINT, 0, 7);
        check.due("run before compile", f.run(10), FortranStatic.RUN_REFUSED);
        check.due("not counted", f.query(FortranStatic.Q_RUN, 0, 0), 0);
        check.due("nothing printed", f.query(FortranStatic.Q_OUTPUTS, 0, 0), 0);
        check.due("the program is still open", f.statement(0, 0, STOP, 0), true);
        check.runs("then", f, 10, DONE, 2);
    }

    private static void stepsAreClamped() {
        int[] given = {Integer.MIN_VALUE, -1, 0, 1, 2, 4999, 5000, 5001, Integer.MAX_VALUE};
        int[] due = {1, 1, 1, 1, 2, 4999, 5000, 5000, 5000};
        for (int i = 0; i < given.length; i++) {
            FortranStatic f = fresh();
            check.add(f, 0, 1, GOTO, 1, 1, 1);
            check.runs("an endless program", f, given[i], FortranStatic.RUN_STEPS, due[i]);
        }
    }

    private static void stepsRunOut() {
        for (int limit = 1; limit < 6; limit++) {
            FortranStatic f = fresh();
            check.add(f, 0, 0, PRINT, 0, 1);
            check.add(f, 0, 0, PRINT, 0, 2);
            check.add(f, 0, 0, PRINT, 0, 3);
            boolean enough = limit >= 3;
            check.runs("three statements", f, limit, enough ? DONE : FortranStatic.RUN_STEPS, enough ? 3 : limit);
            check.due("printed", f.query(FortranStatic.Q_OUTPUTS, 0, 0), enough ? 3 : limit);
        }
        FortranStatic f = fresh();
        check.add(f, 0, 0, CALL, 1);
        check.add(f, 1, 0, CONTINUE, 0);
        check.add(f, 0, 0, STOP, 0);
        check.runs("a limit inside a call", f, 2, FortranStatic.RUN_STEPS, 2);
        check.due("the next run is whole", f.run(3), DONE);
    }

    private static void waysToEnd() {
        FortranStatic f = fresh();
        check.add(f, 1, 0, PRINT, 0, 5);
        check.runs("no statement in unit 0", f, 1, DONE, 0);
        check.printed("no statement in unit 0", f);

        f = fresh();
        check.add(f, 0, 0, STOP, 0);
        check.add(f, 0, 0, PRINT, 0, 5);
        check.runs("STOP", f, 9, DONE, 1);
        check.printed("STOP", f);

        f = fresh();
        check.add(f, 0, 0, RETURN, 0);
        check.add(f, 0, 0, PRINT, 0, 5);
        check.runs("RETURN in unit 0", f, 9, DONE, 1);
        check.printed("RETURN in unit 0", f);

        f = fresh();
        check.add(f, 0, 0, CALL, 3);
        check.add(f, 0, 0, PRINT, 0, 5);
        check.add(f, 3, 0, STOP, 0);
        check.runs("STOP in a subroutine", f, 9, DONE, 2);
        check.printed("STOP in a subroutine", f);

        f = fresh();
        check.add(f, 0, 0, CALL, 3);
        check.add(f, 0, 0, PRINT, 0, 5);
        check.add(f, 3, 0, RETURN, 0);
        check.add(f, 3, 0, PRINT, 0, 6);
        check.runs("RETURN in a subroutine", f, 9, DONE, 3);
        check.printed("RETURN in a subroutine", f, 5);
    }

    private static void startsAfresh() {
        FortranStatic f = fresh();
        // A loop is entered in its middle at first: only then would an old counter be seen.
        check.add(f, 0, 0, GOTO, 1, 1, 2);
        check.add(f, 0, 3, DO, 0, 2, 10000, 1, 3, 1);
        check.add(f, 0, 2, PRINT, 0, 10000);
        check.add(f, 0, 0, ASSIGN, ADD, 10100, 10100, 1);
        check.add(f, 0, 0, IF, 0, 10100, 2, 3, 4, 4);
        check.add(f, 0, 4, STOP, 0);
        for (int i = 0; i < 3; i++) {
            check.runs("run " + i, f, 100, DONE, 11);
            check.printed("run " + i, f, 0, 1, 2, 3);
            check.due("run " + i + ": value", f.value(0, 10100), 2);
        }
        check.due("a short run", f.run(2), FortranStatic.RUN_STEPS);
        check.printed("a short run", f, 0);
        check.due("a short run: value", f.value(0, 10100), 0);
        check.due("a short run: steps", f.query(FortranStatic.Q_STEPS, 0, 0), 2);

        // The first run is cut off inside the loop, whose counter and step the second must not see.
        for (int cut = 4; cut < 8; cut++) {
            f = fresh();
            check.add(f, 0, 3, CONTINUE, 0);
            check.add(f, 0, 0, IF, 0, 10100, 0, 5, 5, 4);
            check.add(f, 0, 4, DO, 0, 5, 10000, 1, 9, 2);
            check.add(f, 0, 5, PRINT, 0, 10000);
            check.add(f, 0, 0, PRINT, 0, 10000);
            check.add(f, 0, 0, ASSIGN, ADD, 10100, 10100, 1);
            check.add(f, 0, 0, IF, 0, 10100, 2, 3, 6, 6);
            check.add(f, 0, 6, STOP, 0);
            check.runs("cut off", f, cut + 6, FortranStatic.RUN_STEPS, cut + 6);
            check.runs("after the cut", f, 100, DONE, 6 + 11 + 1);
            check.printed("after the cut", f, 0, 0, 1, 3, 5, 7, 9, 11);
        }

        f = fresh();
        check.add(f, 0, 0, CALL, 1);
        check.add(f, 1, 1, CONTINUE, 0);
        check.add(f, 1, 0, GOTO, 1, 1, 1);
        check.runs("ends inside a call", f, 50, FortranStatic.RUN_STEPS, 50);
        check.due("no unit stays active", f.run(70), FortranStatic.RUN_STEPS);
        check.due("no unit stays active: steps", f.query(FortranStatic.Q_STEPS, 0, 0), 70);
    }

    /** Computes x op y for any ints, building them from the constants that the language has. */
    private static int compute(int operator, int x, int y) {
        FortranStatic f = fresh();
        build(f, 10000, x);
        build(f, 10100, y);
        check.add(f, 0, 0, ASSIGN, operator, 10200, 10000, 10100);
        check.due("compile", f.compile(), FortranStatic.C_OK);
        check.due("run", f.run(100), DONE);
        check.due("operand x", f.value(0, 10000), x);
        check.due("operand y", f.value(0, 10100), y);
        return f.value(0, 10200);
    }

    private static void build(FortranStatic f, int code, int value) {
        check.add(f, 0, 0, ASSIGN, ADD, code, value >>> 24, 0);
        for (int shift = 16; shift >= 0; shift -= 8) {
            check.add(f, 0, 0, ASSIGN, MUL, code, code, 256);
            check.add(f, 0, 0, ASSIGN, ADD, code, code, value >>> shift & 255);
        }
    }

    private static void arithmetic() {
        int[] numbers = {0, 1, -1, 2, -2, 3, 7, -7, 9999, 65536, 1 << 30, Integer.MAX_VALUE, Integer.MIN_VALUE, Integer.MIN_VALUE + 1};
        for (int x : numbers) {
            for (int y : numbers) {
                check.due(x + " + " + y, compute(ADD, x, y), x + y);
                check.due(x + " - " + y, compute(SUB, x, y), x - y);
                check.due(x + " * " + y, compute(MUL, x, y), x * y);
                if (y != 0) {
                    check.due(x + " / " + y, compute(DIV, x, y), x / y);
                }
            }
        }
        FortranStatic f = fresh();
        check.add(f, 0, 0, ASSIGN, SUB, 10000, 9999, 1);
        check.runs("constants", f, 1, DONE, 1);
        check.due("constants: value", f.value(0, 10000), 9998);
    }

    private static void divisionByZero() {
        FortranStatic f = fresh();
        check.add(f, 0, 0, ASSIGN, ADD, 10000, 5, 0);
        check.add(f, 0, 0, PRINT, 0, 10000);
        check.add(f, 0, 0, ASSIGN, DIV, 10000, 7, 10100);
        check.add(f, 0, 0, PRINT, 0, 10000);
        check.runs("division by zero", f, 100, FortranStatic.RUN_DIVZERO, 3);
        check.printed("division by zero", f, 5);
        check.due("earlier writes stay", f.value(0, 10000), 5);
        int[] others = {ADD, SUB, MUL};
        for (int operator : others) {
            f = fresh();
            check.add(f, 0, 0, ASSIGN, operator, 10000, 7, 0);
            check.runs("zero with operator " + operator, f, 9, DONE, 1);
        }
        f = fresh();
        check.add(f, 0, 0, ASSIGN, DIV, 10000, 0, 7);
        check.runs("zero divided", f, 9, DONE, 1);
    }

    private static void indexErrors() {
        for (int length = 1; length <= 16; length += 5) {
            for (int k = -1; k <= 18; k++) {
                FortranStatic f = fresh();
                f.dimension(0, 1, length);
                check.add(f, 0, 0, ASSIGN, SUB, 10200, k + 1, 1);
                check.add(f, 0, 0, ASSIGN, ADD, 20102, 41, 1);
                check.add(f, 0, 0, PRINT, 0, 20102);
                boolean inside = k >= 1 && k <= length;
                check.runs("index " + k + " of " + length, f, 9, inside ? DONE : FortranStatic.RUN_INDEX, inside ? 3 : 2);
                for (int i = 1; i <= length; i++) {
                    check.due("element " + i, f.value(0, 10100 + i), i == k ? 42 : 0);
                }
            }
        }
        // The index is element 1 of a name with more elements, and one that names itself.
        FortranStatic f = fresh();
        f.dimension(0, 1, 3);
        check.add(f, 0, 0, ASSIGN, ADD, 10101, 2, 0);
        check.add(f, 0, 0, ASSIGN, ADD, 10102, 9, 0);
        check.add(f, 0, 0, PRINT, 0, 20101);
        check.add(f, 0, 0, ASSIGN, ADD, 20101, 3, 0);
        check.add(f, 0, 0, PRINT, 0, 10102);
        check.add(f, 0, 0, ASSIGN, ADD, 10101, 1, 0);
        check.add(f, 0, 0, ASSIGN, ADD, 20101, 3, 0);
        check.add(f, 0, 0, PRINT, 0, 10101);
        check.runs("an index of itself", f, 99, DONE, 8);
        check.printed("an index of itself", f, 9, 3, 3);
    }

    /** 20007 is out of range as long as name 7 is 0. */
    private static void orderOfErrors() {
        ends("ASSIGN: a before b", FortranStatic.RUN_INDEX, ASSIGN, DIV, 10000, 20007, 0);
        ends("ASSIGN: b before dest", FortranStatic.RUN_DIVZERO, ASSIGN, DIV, 20007, 1, 0);
        ends("ASSIGN: b itself", FortranStatic.RUN_INDEX, ASSIGN, DIV, 10000, 1, 20007);
        ends("ASSIGN: dest", FortranStatic.RUN_INDEX, ASSIGN, ADD, 20007, 1, 1);
        ends("IF: a", FortranStatic.RUN_INDEX, IF, 0, 20007, 1, 9, 9, 9);
        ends("IF: b", FortranStatic.RUN_INDEX, IF, 0, 1, 20007, 9, 9, 9);
        ends("GOTO", FortranStatic.RUN_INDEX, GOTO, 1, 20007, 9);
        ends("DO: start", FortranStatic.RUN_INDEX, DO, 0, 9, 10000, 20007, 1, 0);
        ends("DO: limit", FortranStatic.RUN_INDEX, DO, 0, 9, 10000, 1, 20007, 0);
        ends("DO: step", FortranStatic.RUN_INDEX, DO, 0, 9, 10000, 1, 1, 20007);
        ends("DO: zero step before var", FortranStatic.RUN_ZEROSTEP, DO, 0, 9, 20007, 1, 1, 0);
        ends("DO: zero step", FortranStatic.RUN_ZEROSTEP, DO, 0, 9, 10000, 1, 1, 0);
        ends("DO: var", FortranStatic.RUN_INDEX, DO, 0, 9, 20007, 1, 1, 1);
        ends("PRINT", FortranStatic.RUN_INDEX, PRINT, 0, 20007);
        ends("CALL: arg 1", FortranStatic.RUN_INDEX, CALL, 11, 20007, 10000);
        ends("CALL: arg 2", FortranStatic.RUN_INDEX, CALL, 11, 10000, 20007);

        FortranStatic f = fresh();
        check.add(f, 0, 0, ASSIGN, ADD, 10000, 5, 0);
        check.add(f, 0, 9, DO, 0, 1, 10000, 6, 6, 10100);
        check.add(f, 0, 1, CONTINUE, 0);
        check.runs("a zero step writes no var", f, 99, FortranStatic.RUN_ZEROSTEP, 2);
        check.due("a zero step writes no var: value", f.value(0, 10000), 5);
    }

    private static void ends(String what, int answer, int kind, int extra, int... codes) {
        FortranStatic f = fresh();
        f.parameters(3, 2);
        check.add(f, 0, 0, PRINT, 0, 3);
        check.add(f, 0, 0, kind, extra, codes);
        check.add(f, 0, 9, PRINT, 0, 4);
        check.add(f, 3, 0, PRINT, 0, 5);
        check.runs(what, f, 99, answer, 2);
        check.printed(what, f, 3);
        check.due(what + ": nothing written", f.value(0, 10000), 0);
    }

    private static void arithmeticIf() {
        int[] numbers = {0, 1, 2, 9999, -1, -5, Integer.MAX_VALUE, Integer.MIN_VALUE};
        for (int a : numbers) {
            for (int b : numbers) {
                FortranStatic f = fresh();
                build(f, 10000, a);
                build(f, 10100, b);
                check.add(f, 0, 0, IF, 0, 10000, 10100, 10, 20, 30);
                check.add(f, 0, 0, STOP, 0);
                check.add(f, 0, 20, PRINT, 0, 2);
                check.add(f, 0, 0, STOP, 0);
                check.add(f, 0, 10, PRINT, 0, 1);
                check.add(f, 0, 0, STOP, 0);
                check.add(f, 0, 30, PRINT, 0, 3);
                check.runs("IF " + a + ", " + b, f, 99, DONE, a - b > 0 ? 16 : 17);
                check.printed("IF " + a + ", " + b, f, a - b < 0 ? 1 : a - b == 0 ? 2 : 3);
            }
        }
    }

    private static void computedGoto() {
        for (int k = 1; k <= 4; k++) {
            for (int v = -2; v <= 6; v++) {
                FortranStatic f = fresh();
                check.add(f, 0, 0, ASSIGN, SUB, 10000, v + 2, 2);
                f.statement(0, 0, GOTO, k);
                f.operand(10000);
                for (int i = 1; i <= k; i++) {
                    check.due("operand", f.operand(10 * i), true);
                }
                check.add(f, 0, 0, PRINT, 0, 77);
                for (int i = 4; i >= 1; i--) {
                    check.add(f, 0, 0, STOP, 0);
                    check.add(f, 0, 10 * i, PRINT, 0, i);
                }
                boolean inside = v >= 1 && v <= k;
                check.runs("GOTO " + v + " of " + k, f, 99, DONE, inside && v == 1 ? 3 : 4);
                check.printed("GOTO " + v + " of " + k, f, inside ? v : 77);
            }
        }
        FortranStatic f = fresh();
        check.add(f, 0, 1, ASSIGN, ADD, 10000, 10000, 1);
        check.add(f, 0, 0, GOTO, 2, 10000, 1, 1);
        check.runs("GOTO backward", f, 99, DONE, 6);
    }

    private static void tripCounts() {
        int big = Integer.MAX_VALUE;
        int small = Integer.MIN_VALUE;
        int[][] loops = {
            {1, 3, 1}, {1, 1, 1}, {1, 0, 1}, {1, 10, 3}, {1, 9, 3}, {5, 1, -1}, {5, 1, -2}, {5, 5, -2},
            {5, 6, -1}, {0, 0, 5}, {3, 0, 2}, {0, -1, 1}, {-3, 3, 2}, {1, 3, big}, {big - 1, big, 1},
            {big, big - 1, -1}, {small, small + 1, 1}, {big, small, 1}, {small, big, big}, {0, big, 1 << 30},
            {small + 1, 0, -1}, {big, big, big}, {small, small, small}, {0, small, small}, {0, big, -1}, {1, small, -1},
        };
        for (int[] loop : loops) {
            int trip = (loop[1] - loop[0] + loop[2]) / loop[2];
            if (trip <= 20) {
                countTrips(loop[0], loop[1], loop[2], trip > 0 ? trip : 0);
            }
        }
    }

    private static void countTrips(int start, int limit, int step, int trip) {
        String what = "DO " + start + ", " + limit + ", " + step;
        FortranStatic f = fresh();
        build(f, 10000, start);
        build(f, 10100, limit);
        build(f, 10200, step);
        check.add(f, 0, 0, DO, 0, 5, 10300, 10000, 10100, 10200);
        check.add(f, 0, 0, PRINT, 0, 10300);
        check.add(f, 0, 5, ASSIGN, ADD, 10400, 10400, 1);
        check.add(f, 0, 0, STOP, 0);
        check.runs(what, f, 99, DONE, 21 + 1 + 2 * trip + 1);
        int[] values = new int[trip];
        for (int i = 0; i < trip; i++) {
            values[i] = start + i * step;
        }
        check.printed(what, f, values);
        check.due(what + ": trips", f.value(0, 10400), trip);
        check.due(what + ": var after", f.value(0, 10300), start + trip * step);
    }

    private static void zeroTripGoesPastTheEnd() {
        FortranStatic f = fresh();
        check.add(f, 0, 0, DO, 0, 5, 10000, 7, 1, 1);
        check.add(f, 0, 0, PRINT, 0, 1);
        check.add(f, 1, 0, PRINT, 0, 8);
        check.add(f, 0, 5, PRINT, 0, 2);
        check.add(f, 1, 0, PRINT, 0, 9);
        check.add(f, 0, 0, PRINT, 0, 3);
        check.runs("zero trips", f, 99, DONE, 2);
        check.printed("zero trips", f, 3);
        check.due("zero trips: var", f.value(0, 10000), 7);

        f = fresh();
        check.add(f, 0, 0, DO, 0, 5, 10000, 7, 1, 1);
        check.add(f, 0, 5, PRINT, 0, 2);
        check.runs("zero trips, the end is the last", f, 99, DONE, 1);
    }

    private static void sharedEnds() {
        FortranStatic f = fresh();
        check.add(f, 0, 0, DO, 0, 5, 10000, 1, 3, 1);
        check.add(f, 0, 0, DO, 0, 5, 10100, 1, 10000, 1);
        check.add(f, 0, 0, ASSIGN, MUL, 10200, 10000, 10);
        check.add(f, 0, 0, ASSIGN, ADD, 10200, 10200, 10100);
        check.add(f, 0, 5, PRINT, 0, 10200);
        check.runs("two loops with one end", f, 99, DONE, 1 + 3 + 6 * 3);
        check.printed("two loops with one end", f, 11, 21, 22, 31, 32, 33);
        check.due("outer var after", f.value(0, 10000), 4);
        check.due("inner var after", f.value(0, 10100), 4);

        // The inner loop has no trip while the outer goes on: only the outer one is stepped then.
        f = fresh();
        check.add(f, 0, 0, DO, 0, 5, 10000, 1, 4, 1);
        check.add(f, 0, 0, DO, 0, 5, 10100, 3, 10000, 1);
        check.add(f, 0, 5, PRINT, 0, 10100);
        check.runs("an inner loop of no trips", f, 99, DONE, 1 + 4 + 3);
        check.printed("an inner loop of no trips", f, 3, 3, 4);
        check.due("outer var after", f.value(0, 10000), 5);
        check.due("inner var after", f.value(0, 10100), 5);

        f = fresh();
        check.add(f, 0, 0, DO, 0, 5, 10000, 1, 2, 1);
        check.add(f, 0, 0, DO, 0, 6, 10100, 1, 2, 1);
        check.add(f, 0, 6, PRINT, 0, 10100);
        check.add(f, 0, 5, PRINT, 0, 10000);
        check.runs("nested loops with two ends", f, 99, DONE, 9);
        check.printed("nested loops with two ends", f, 1, 2, 1, 1, 2, 2);
    }

    private static void jumpsIntoLoops() {
        FortranStatic f = fresh();
        check.add(f, 0, 0, GOTO, 1, 1, 5);
        check.add(f, 0, 0, DO, 0, 5, 10000, 1, 3, 1);
        check.add(f, 0, 5, PRINT, 0, 10000);
        check.runs("into a loop that never began", f, 99, DONE, 2);
        check.printed("into a loop that never began", f, 0);

        // Out of the loop and back to its end: the counter goes on where it was.
        f = fresh();
        check.add(f, 0, 0, DO, 0, 5, 10000, 1, 3, 1);
        check.add(f, 0, 0, GOTO, 1, 1, 6);
        check.add(f, 0, 5, PRINT, 0, 10000);
        check.add(f, 0, 0, STOP, 0);
        check.add(f, 0, 6, ASSIGN, ADD, 10000, 10000, 10);
        check.add(f, 0, 0, GOTO, 1, 1, 5);
        check.runs("out and back", f, 99, DONE, 1 + 3 * 4 + 1);
        check.printed("out and back", f, 11, 22, 33);
        check.due("var after", f.value(0, 10000), 34);

        // After the loop is spent its counter goes below 0, and its var is still stepped.
        f = fresh();
        check.add(f, 0, 0, DO, 0, 5, 10000, 1, 2, 3);
        check.add(f, 0, 5, PRINT, 0, 10000);
        check.add(f, 0, 0, ASSIGN, ADD, 10100, 10100, 1);
        check.add(f, 0, 0, IF, 0, 10100, 3, 5, 6, 6);
        check.add(f, 0, 6, CONTINUE, 0);
        check.runs("the end of a spent loop", f, 99, DONE, 1 + 3 * 3 + 1);
        check.printed("the end of a spent loop", f, 1, 4, 7);
        check.due("var after", f.value(0, 10000), 10);

        // The index of a loop that never began is looked at all the same.
        f = fresh();
        check.add(f, 0, 0, GOTO, 1, 1, 5);
        check.add(f, 0, 0, DO, 0, 5, 20001, 1, 3, 1);
        check.add(f, 0, 5, PRINT, 0, 10000);
        check.runs("a wrong index at the end", f, 99, FortranStatic.RUN_INDEX, 2);
        check.printed("a wrong index at the end", f, 0);
    }

    private static void loopVariablesAreFoundAnew() {
        FortranStatic f = fresh();
        f.dimension(0, 1, 3);
        check.add(f, 0, 0, ASSIGN, ADD, 10200, 1, 0);
        check.add(f, 0, 0, DO, 0, 5, 20102, 10, 12, 1);
        check.add(f, 0, 0, ASSIGN, ADD, 10200, 2, 0);
        check.add(f, 0, 5, CONTINUE, 0);
        check.runs("the var moves", f, 99, DONE, 2 + 3 * 2);
        check.due("where it began", f.value(0, 10101), 10);
        check.due("where it went", f.value(0, 10102), 3);

        f = fresh();
        f.dimension(0, 1, 3);
        check.add(f, 0, 0, ASSIGN, ADD, 10200, 1, 0);
        check.add(f, 0, 0, DO, 0, 5, 20102, 10, 12, 1);
        check.add(f, 0, 0, ASSIGN, ADD, 10200, 10200, 2);
        check.add(f, 0, 5, PRINT, 0, 10200);
        check.runs("the var moves out", f, 99, FortranStatic.RUN_INDEX, 2 + 2 * 2);
        check.printed("the var moves out", f, 3, 5);
        check.due("the third", f.value(0, 10103), 1);

        // start, limit and step are values: what becomes of their cells later changes no trip.
        f = fresh();
        check.add(f, 0, 0, ASSIGN, ADD, 10000, 1, 0);
        check.add(f, 0, 0, ASSIGN, ADD, 10100, 4, 0);
        check.add(f, 0, 0, ASSIGN, ADD, 10200, 1, 0);
        check.add(f, 0, 0, DO, 0, 5, 10000, 10000, 10100, 10200);
        check.add(f, 0, 0, PRINT, 0, 10000);
        check.add(f, 0, 0, ASSIGN, ADD, 10100, 100, 0);
        check.add(f, 0, 5, ASSIGN, ADD, 10200, 50, 0);
        check.runs("values of a DO", f, 99, DONE, 4 + 4 * 3);
        check.printed("values of a DO", f, 1, 2, 3, 4);

        // The var is its own limit and step as well.
        f = fresh();
        check.add(f, 0, 0, ASSIGN, ADD, 10000, 2, 0);
        check.add(f, 0, 0, DO, 0, 5, 10000, 10000, 6, 10000);
        check.add(f, 0, 5, PRINT, 0, 10000);
        check.runs("var as step", f, 99, DONE, 5);
        check.printed("var as step", f, 2, 4, 6);
    }

    private static void loopStateOutlivesCalls() {
        FortranStatic f = fresh();
        check.add(f, 0, 0, CALL, 1);
        check.add(f, 0, 0, CALL, 1);
        check.add(f, 1, 0, IF, 0, 10100, 0, 5, 2, 5);
        check.add(f, 1, 2, DO, 0, 5, 10000, 1, 3, 1);
        check.add(f, 1, 0, ASSIGN, ADD, 10100, 10100, 1);
        check.add(f, 1, 0, IF, 0, 10100, 1, 5, 6, 5);
        check.add(f, 1, 5, PRINT, 0, 10000);
        check.add(f, 1, 6, RETURN, 0);
        check.runs("a loop left by RETURN and entered again", f, 99, DONE, 16);
        check.printed("a loop left by RETURN and entered again", f, 1, 2, 3);
    }

    private static void arguments() {
        FortranStatic f = fresh();
        f.parameters(2, 3);
        f.dimension(0, 3, 4);
        check.add(f, 0, 0, ASSIGN, ADD, 10000, 3, 0);
        check.add(f, 0, 0, CALL, 2 + 12, 20300, 10304, 10000);
        check.add(f, 0, 0, PRINT, 0, 10303);
        check.add(f, 0, 0, PRINT, 0, 10304);
        check.add(f, 0, 0, PRINT, 0, 10000);
        check.add(f, 2, 0, ASSIGN, ADD, 10200, 1, 0);
        check.add(f, 2, 0, ASSIGN, ADD, 10000, 33, 0);
        check.add(f, 2, 0, ASSIGN, ADD, 10100, 44, 0);
        check.runs("arguments", f, 99, DONE, 8);
        check.printed("arguments", f, 33, 44, 1);
        check.due("a dummy shows no value", f.value(2, 10000), 0);

        // One cell passed twice, and a cell that the subroutine has by COMMON too.
        f = fresh();
        f.parameters(1, 2);
        f.common(0, 0, 4);
        f.common(1, 0, 5);
        check.add(f, 0, 0, CALL, 1 + 8, 10400, 10400);
        check.add(f, 1, 0, ASSIGN, ADD, 10000, 6, 0);
        check.add(f, 1, 0, ASSIGN, ADD, 10100, 10100, 10500);
        check.add(f, 1, 0, PRINT, 0, 10000);
        check.runs("one cell three times", f, 99, DONE, 4);
        check.printed("one cell three times", f, 12);

        // A dummy has one element, at which an index may point, and it can be an index itself.
        for (int k = 0; k < 3; k++) {
            f = fresh();
            f.parameters(1, 1);
            f.dimension(0, 0, 4);
            f.dimension(1, 2, 2);
            check.add(f, 0, 0, ASSIGN, ADD, 10000, k, 0);
            check.add(f, 0, 0, CALL, 1 + 4, 10000);
            check.add(f, 1, 0, PRINT, 0, 20000);
            check.add(f, 1, 0, ASSIGN, ADD, 20200, 8, 0);
            check.runs("a dummy as index " + k, f, 99, k == 1 ? DONE : FortranStatic.RUN_INDEX, k == 1 ? 4 : 3);
            check.due("a dummy as index: value", f.value(1, 10201), k == 1 ? 8 : 0);
        }

        // Each CALL binds anew.
        f = fresh();
        f.parameters(1, 1);
        f.dimension(0, 0, 3);
        check.add(f, 0, 0, DO, 0, 5, 10100, 1, 3, 1);
        check.add(f, 0, 5, CALL, 1 + 4, 20001);
        check.add(f, 1, 0, ASSIGN, ADD, 10700, 10700, 5);
        check.add(f, 1, 0, ASSIGN, ADD, 10000, 10700, 0);
        check.runs("bound anew", f, 99, DONE, 10);
        for (int i = 1; i <= 3; i++) {
            check.due("bound anew: element " + i, f.value(0, 10000 + i), 5 * i);
        }
    }

    private static void argumentsPassedOn() {
        FortranStatic f = fresh();
        f.parameters(1, 2);
        f.parameters(2, 2);
        f.parameters(3, 1);
        check.add(f, 0, 0, CALL, 1 + 8, 10600, 10700);
        check.add(f, 0, 0, PRINT, 0, 10600);
        check.add(f, 0, 0, PRINT, 0, 10700);
        check.add(f, 1, 0, CALL, 2 + 8, 10100, 10000);
        check.add(f, 1, 0, ASSIGN, MUL, 10100, 10100, 10);
        check.add(f, 2, 0, ASSIGN, ADD, 10000, 3, 0);
        check.add(f, 2, 0, ASSIGN, ADD, 10100, 4, 0);
        check.add(f, 2, 0, CALL, 3 + 4, 10100);
        check.add(f, 3, 0, ASSIGN, ADD, 10000, 10000, 100);
        check.runs("passed on", f, 99, DONE, 9);
        check.printed("passed on", f, 104, 30);
    }

    private static void callsThatEndLoops() {
        FortranStatic f = fresh();
        check.add(f, 0, 0, DO, 0, 5, 10000, 1, 2, 1);
        check.add(f, 0, 5, CALL, 1);
        check.add(f, 0, 0, PRINT, 0, 9);
        check.add(f, 1, 0, DO, 0, 5, 10000, 1, 2, 1);
        check.add(f, 1, 5, CALL, 2);
        check.add(f, 2, 0, PRINT, 0, 10000);
        check.add(f, 2, 5, ASSIGN, ADD, 10000, 10000, 1);
        check.runs("calls that end loops", f, 99, DONE, 1 + 2 * (1 + 1 + 2 * 3) + 1);
        check.printed("calls that end loops", f, 0, 1, 2, 3, 9);
    }

    private static void emptySubroutines() {
        FortranStatic f = fresh();
        f.parameters(2, 1);
        check.add(f, 0, 0, DO, 0, 5, 10000, 1, 3, 1);
        check.add(f, 0, 5, CALL, 2 + 4, 10000);
        check.runs("an empty subroutine", f, 4, DONE, 4);
        check.due("var after", f.value(0, 10000), 4);

        f = fresh();
        f.parameters(2, 1);
        check.add(f, 0, 0, CALL, 2 + 4, 20001);
        check.runs("its arguments are found", f, 4, FortranStatic.RUN_INDEX, 1);
        f = fresh();
        check.add(f, 0, 0, CALL, 2);
        check.add(f, 0, 0, CALL, 2);
        check.runs("it does not stay active", f, 4, DONE, 2);
    }

    private static void recursion() {
        FortranStatic f = fresh();
        check.add(f, 0, 0, CALL, 1);
        check.add(f, 1, 0, PRINT, 0, 1);
        check.add(f, 1, 0, CALL, 1);
        check.runs("direct", f, 99, FortranStatic.RUN_RECURSION, 3);
        check.printed("direct", f, 1);

        f = fresh();
        f.parameters(1, 1);
        check.add(f, 0, 0, CALL, 1 + 4, 10000);
        check.add(f, 1, 0, CALL, 2);
        check.add(f, 2, 0, CALL, 3);
        check.add(f, 3, 0, CALL, 1 + 4, 20001);
        check.runs("in a ring, before the arguments", f, 99, FortranStatic.RUN_RECURSION, 4);

        f = fresh();
        check.add(f, 0, 0, CALL, 1);
        check.add(f, 0, 0, CALL, 2);
        check.add(f, 0, 0, CALL, 1);
        check.add(f, 1, 0, CALL, 2);
        check.add(f, 2, 0, CALL, 3);
        check.add(f, 3, 0, PRINT, 0, 3);
        check.runs("a unit that has returned is not active", f, 99, DONE, 3 + 2 + 3 + 3);
        check.printed("a unit that has returned is not active", f, 3, 3, 3);
    }

    private static void fullOutput() {
        FortranStatic f = new FortranStatic(16, 4);
        check.add(f, 0, 1, PRINT, 0, 10000);
        check.add(f, 0, 0, ASSIGN, ADD, 10000, 10000, 1);
        check.add(f, 0, 0, IF, 0, 10000, 4, 1, 2, 2);
        check.add(f, 0, 2, PRINT, 0, 20107);
        check.runs("full before the value is read", f, 99, FortranStatic.RUN_OUTPUT_FULL, 13);
        check.printed("full before the value is read", f, 0, 1, 2, 3);

        f = new FortranStatic(16, 4);
        for (int i = 0; i < 4; i++) {
            check.add(f, 0, 0, PRINT, 0, 9999 - i);
        }
        check.runs("just full", f, 99, DONE, 4);
        check.printed("just full", f, 9999, 9998, 9997, 9996);
    }
}
