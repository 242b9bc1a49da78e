/** Sentences of promise 8 that name a boundary case: DO, Done and END PROCESSING. */
public final class BoundsOfLoopsTest extends Bounds {
    private static final int ZEROSTEP = FortranStatic.RUN_ZEROSTEP;
    private static final int VAR = fixed(0, 1);
    private static final int OTHER = fixed(1, 1);
    private static final int THIRD = fixed(2, 1);

    public static void main(String[] args) {
        new BoundsOfLoopsTest().look(args);
    }

    @Override
    void sentences() {
        holds("8.30", "t = 0 ends the run RUN_ZEROSTEP", this::zeroStep);
        holds("8.31", "var's cell gets s", this::varGetsStart);
        holds("8.32", "trip = (e - s + t) / t (wrapping, truncating, as Java int arithmetic)", this::trips);
        holds("8.33", "the DO's counter gets trip if trip > 0 else 0", this::counterGetsTrip);
        holds("8.34", "its saved step gets t.", this::savedStep);
        holds("8.35", "If trip > 0 go to the next statement", this::goesIn);
        holds("8.36", "else do the END PROCESSING of the statement labelled end, starting at this DO.", this::noTrip);
        holds("8.37", "if S has a label that is the end of some DO of its unit, do the end processing of S starting at S", this::done);
        holds("8.38", "else go to the next statement.", this::doneElsewhere);
        holds("8.39", "for each DO of T's unit whose end is T's label", this::loopsOfTheEnd);
        holds("8.40", "and which stands before q", this::loopsBefore);
        holds("8.41", "from the latest to the earliest", this::latestFirst);
        holds("8.42", "its var's cell gets (value of var) + its saved step (wrapping)", this::varIsStepped);
        holds("8.43", "its counter decreases by 1", this::counterDecreases);
        holds("8.44", "if the counter is now > 0, go to the statement after that DO and stop.", this::goesRound);
        holds("8.45", "If none does so, go to the statement after T.", this::goesOn);
    }

    private void zeroStep() {
        int[][] bounds = {{1, 3}, {3, 1}, {0, 0}, {9999, 9999}};
        for (int[] bound : bounds) {
            FortranStatic f = fresh();
            add(f, 0, 0, ASSIGN, ADD, VAR, 55, 0);
            add(f, 0, 0, DO, 0, 5, VAR, bound[0], bound[1], 0);
            add(f, 0, 5, PRINT, 0, 1);
            runs("from " + bound[0] + " to " + bound[1] + " by 0", f, 100, ZEROSTEP, 2);
            due("var is not written", f.value(0, VAR), 55);
            printed("no trip", f);
        }
        FortranStatic f = fresh();
        add(f, 0, 0, DO, 0, 5, VAR, 1, 3, OTHER);
        add(f, 0, 5, PRINT, 0, 1);
        runs("a cell that is 0", f, 100, ZEROSTEP, 1);
    }

    private void varGetsStart() {
        int[] starts = {MIN, -1, 0, 1, MAX};
        for (int start : starts) {
            for (int trips = 0; trips <= 1; trips++) {
                FortranStatic f = fresh();
                build(f, 0, OTHER, start);
                add(f, 0, 0, ASSIGN, SUB, THIRD, OTHER, 1 - trips);
                add(f, 0, 0, DO, 0, 5, VAR, OTHER, THIRD, 1);
                add(f, 0, 5, PRINT, 0, VAR);
                runs("start " + start + ", trips " + trips, f, 9, trips == 0 ? DONE : STEPS, 9);
                due("var", f.value(0, VAR), start);
            }
        }
    }

    /** Runs a loop with up to 20 trips and looks at each value of var; more trips end with RUN_STEPS. */
    private void tripsOf(int start, int limit, int step, int trips) {
        String what = "DO " + start + ", " + limit + ", " + step;
        FortranStatic f = fresh();
        build(f, 0, fixed(3, 1), start);
        build(f, 0, fixed(4, 1), limit);
        build(f, 0, fixed(5, 1), step);
        add(f, 0, 0, DO, 0, 5, VAR, fixed(3, 1), fixed(4, 1), fixed(5, 1));
        add(f, 0, 0, PRINT, 0, VAR);
        add(f, 0, 5, ASSIGN, ADD, OTHER, OTHER, 1);
        if (trips > 20) {
            runs(what, f, 22 + 2 * 20, STEPS, 62);
            due(what + ": trips", f.value(0, OTHER), 20);
            return;
        }
        runs(what, f, 100, DONE, 22 + 2 * trips);
        int[] values = new int[trips];
        for (int i = 0; i < trips; i++) {
            values[i] = start + i * step;
        }
        printed(what, f, values);
        due(what + ": trips", f.value(0, OTHER), trips);
        due(what + ": var", f.value(0, VAR), start + trips * step);
    }

    private void trips() {
        tripsOf(1, 3, 1, 3);
        tripsOf(1, 1, 1, 1);
        tripsOf(1, 0, 1, 0);
        tripsOf(1, -1, 1, 0);
        tripsOf(1, 4, 2, 2);
        tripsOf(1, 5, 2, 3);
        tripsOf(2, 1, 3, 0);
        tripsOf(4, 1, 2, 0);
        tripsOf(3, 1, -1, 3);
        tripsOf(3, 2, -2, 1);
        tripsOf(3, 3, -2, 1);
        tripsOf(3, 4, -2, 0);
        tripsOf(3, 5, -2, 0);
        tripsOf(-2, 2, 2, 3);
        tripsOf(0, 5, MAX, 0);
        tripsOf(0, 0, MAX, 1);
        tripsOf(0, 0, MIN, 1);
        tripsOf(0, MIN, MIN, 0);
        tripsOf(0, MAX, 1, 0);
        tripsOf(1, MAX, 1, MAX);
        tripsOf(0, MAX - 1, 1, MAX);
        tripsOf(MAX, MIN, 1, 2);
        tripsOf(MAX, MAX, 1, 1);
        tripsOf(MAX - 1, MAX, 1, 2);
        tripsOf(MIN, MAX, 1, 0);
        tripsOf(MIN, MAX, MAX, 0);
        tripsOf(MIN, MIN, -1, 1);
        tripsOf(MIN, MAX, -1, 2);
        tripsOf(0, MIN + 1, -1, 0);
        tripsOf(0, MIN + 2, -1, MAX);
        tripsOf(1, MIN, -1, 0);
        tripsOf(MAX, MIN, -1, 0);
        tripsOf(0, 1 << 30, 1 << 30, 0);
        tripsOf(0, (1 << 30) - 1, 1 << 30, 1);
    }

    /**
     * A loop is begun with three trips and left at once; it is begun again with this limit and step, without a
     * trip; then its end is jumped to. A counter that was not set then would send control round.
     */
    private FortranStatic begunAgain(int limit, int step) {
        FortranStatic f = fresh();
        build(f, 0, fixed(3, 1), limit);
        build(f, 0, fixed(4, 1), step);
        add(f, 0, 0, ASSIGN, ADD, OTHER, 3, 0);
        add(f, 0, 0, ASSIGN, ADD, fixed(5, 1), 1, 0);
        add(f, 0, 4, DO, 0, 5, VAR, 1, OTHER, fixed(5, 1));
        add(f, 0, 0, GOTO, 1, 1, 6);
        add(f, 0, 5, PRINT, 0, VAR);
        add(f, 0, 0, GOTO, 2, THIRD, 7, 8);
        add(f, 0, 6, ASSIGN, ADD, OTHER, fixed(3, 1), 0);
        add(f, 0, 0, ASSIGN, ADD, fixed(5, 1), fixed(4, 1), 0);
        add(f, 0, 0, ASSIGN, ADD, THIRD, 1, 0);
        add(f, 0, 0, GOTO, 1, 1, 4);
        add(f, 0, 7, ASSIGN, ADD, THIRD, 2, 0);
        add(f, 0, 0, GOTO, 1, 1, 5);
        add(f, 0, 8, STOP, 0);
        return f;
    }

    private void counterGetsTrip() {
        int[][] loops = {{0, 1}, {-1, 1}, {-50, 1}, {2, -1}, {100, -7}, {MIN, 1}};
        for (int[] loop : loops) {
            FortranStatic f = begunAgain(loop[0], loop[1]);
            runs("begun again to " + loop[0] + " by " + loop[1], f, 200, DONE, 14 + 15);
            printed("begun again to " + loop[0] + " by " + loop[1], f, 1);
        }
        // Begun again with trips, it gets the new ones and not the old ones, and not their sum.
        FortranStatic f = fresh();
        add(f, 0, 0, ASSIGN, ADD, OTHER, 7, 0);
        add(f, 0, 4, DO, 0, 5, VAR, 1, OTHER, 1);
        add(f, 0, 0, IF, 0, OTHER, 7, 5, 6, 6);
        add(f, 0, 5, PRINT, 0, VAR);
        add(f, 0, 0, STOP, 0);
        add(f, 0, 6, ASSIGN, ADD, OTHER, 2, 0);
        add(f, 0, 0, GOTO, 1, 1, 4);
        runs("begun again with two trips", f, 100, DONE, 11);
        printed("begun again with two trips", f, 1, 2);
    }

    private void savedStep() {
        int[][] loops = {{0, 5}, {9, -5}, {0, MAX}, {9, MIN}};
        for (int[] loop : loops) {
            // Also without a trip: the end that is jumped to steps var by the new step.
            FortranStatic f = begunAgain(loop[0], loop[1]);
            runs("begun again by " + loop[1], f, 200, DONE, 14 + 15);
            due("var", f.value(0, VAR), 1 + loop[1]);
        }
        // What becomes of the cells of step and limit later does not matter.
        FortranStatic f = fresh();
        add(f, 0, 0, ASSIGN, ADD, OTHER, 2, 0);
        add(f, 0, 0, ASSIGN, ADD, THIRD, 5, 0);
        add(f, 0, 0, DO, 0, 5, VAR, 1, THIRD, OTHER);
        add(f, 0, 0, PRINT, 0, VAR);
        add(f, 0, 0, ASSIGN, ADD, OTHER, 0, 0);
        add(f, 0, 5, ASSIGN, ADD, THIRD, 0, 0);
        runs("step and limit are values", f, 100, DONE, 12);
        printed("step and limit are values", f, 1, 3, 5);
    }

    private void goesIn() {
        FortranStatic f = fresh();
        add(f, 0, 0, DO, 0, 5, VAR, 1, 1, 1);
        add(f, 1, 0, PRINT, 0, 9);
        add(f, 0, 0, PRINT, 0, 1);
        add(f, 1, 0, PRINT, 0, 9);
        add(f, 0, 5, PRINT, 0, 2);
        add(f, 0, 0, PRINT, 0, 3);
        runs("one trip", f, 100, DONE, 4);
        printed("one trip", f, 1, 2, 3);
        FortranStatic g = fresh();
        add(g, 0, 0, DO, 0, 5, VAR, 1, 1, 1);
        add(g, 0, 5, PRINT, 0, 2);
        runs("the next statement is the end", g, 100, DONE, 2);
        printed("the next statement is the end", g, 2);
    }

    private void noTrip() {
        FortranStatic f = fresh();
        add(f, 0, 0, DO, 0, 5, VAR, 2, 1, 1);
        add(f, 0, 0, PRINT, 0, 1);
        add(f, 0, 5, PRINT, 0, 2);
        add(f, 0, 0, PRINT, 0, 3);
        runs("no trip", f, 100, DONE, 2);
        printed("no trip", f, 3);
        due("var has the start", f.value(0, VAR), 2);
        // The end may be long after, and the last statement.
        FortranStatic g = fresh();
        add(g, 0, 0, DO, 0, 5, VAR, 2, 1, 1);
        add(g, 0, 4, PRINT, 0, 1);
        add(g, 0, 5, PRINT, 0, 2);
        runs("no trip, then nothing", g, 1, DONE, 1);
        printed("no trip, then nothing", g);
        // An outer loop with the same end goes round, an inner one is not begun.
        FortranStatic h = fresh();
        add(h, 0, 0, DO, 0, 5, VAR, 1, 3, 1);
        add(h, 0, 0, DO, 0, 5, OTHER, VAR, 2, 1);
        add(h, 0, 0, DO, 0, 5, THIRD, 10, 10, 5);
        add(h, 0, 5, PRINT, 0, OTHER);
        runs("the middle one of three loops", h, 100, DONE, 1 + (1 + 4) + (1 + 2) + 1);
        printed("the middle one of three loops", h, 1, 2, 2);
        due("outer var", h.value(0, VAR), 4);
        due("middle var", h.value(0, OTHER), 3);
        due("inner var", h.value(0, THIRD), 15);
    }

    private void done() {
        int[][] codes = {{THIRD, 1, 1}, {}, {1}, {}};
        int[] kinds = {ASSIGN, CALL, PRINT, CONTINUE};
        for (int k = 0; k < kinds.length; k++) {
            for (int last = 0; last <= 1; last++) {
                FortranStatic f = fresh();
                add(f, 0, 0, DO, 0, 99, VAR, 1, 3, 1);
                add(f, 0, 99, kinds[k], kinds[k] == CALL ? 1 : 0, codes[k]);
                if (last == 0) {
                    add(f, 0, 0, STOP, 0);
                }
                runs("an end of kind " + kinds[k], f, 100, DONE, 4 + 1 - last);
                due("var", f.value(0, VAR), 4);
            }
        }
        // Reached by a jump, it is the end all the same.
        FortranStatic f = fresh();
        add(f, 0, 0, DO, 0, 5, VAR, 1, 3, 1);
        add(f, 0, 0, GOTO, 1, 1, 5);
        add(f, 0, 0, STOP, 0);
        add(f, 0, 5, CONTINUE, 0);
        runs("reached by a jump", f, 100, DONE, 7);
        due("var", f.value(0, VAR), 4);
    }

    private void doneElsewhere() {
        FortranStatic f = fresh();
        add(f, 0, 0, DO, 0, 5, VAR, 1, 2, 1);
        add(f, 0, 1, PRINT, 0, 1);
        add(f, 0, 2, ASSIGN, ADD, THIRD, THIRD, 1);
        add(f, 0, 3, CONTINUE, 0);
        add(f, 0, 4, CALL, 1);
        add(f, 0, 5, PRINT, 0, 2);
        add(f, 0, 6, PRINT, 0, 3);
        add(f, 1, 5, PRINT, 0, 4);
        add(f, 1, 0, PRINT, 0, 5);
        runs("labels that end no DO, and a label that ends one in another unit", f, 100, DONE, 1 + 2 * 7 + 1);
        printed("labels that end no DO", f, 1, 4, 5, 2, 1, 4, 5, 2, 3);
        due("var", f.value(0, VAR), 3);
        // The jump of an IF or a GOTO is no end, even from inside a loop to just after it.
        FortranStatic g = fresh();
        add(g, 0, 0, DO, 0, 5, VAR, 1, 3, 1);
        add(g, 0, 0, IF, 0, VAR, 1, 6, 6, 6);
        add(g, 0, 5, PRINT, 0, 1);
        add(g, 0, 6, PRINT, 0, VAR);
        runs("jumped out", g, 100, DONE, 3);
        printed("jumped out", g, 1);
    }

    private void loopsOfTheEnd() {
        // Loops with another end, and loops of another unit with the same end label, are left alone.
        FortranStatic f = fresh();
        add(f, 0, 0, DO, 0, 6, VAR, 1, 2, 1);
        add(f, 1, 0, DO, 0, 5, fixed(7, 1), 1, 3, 1);
        add(f, 0, 0, DO, 0, 5, OTHER, 1, 3, 1);
        add(f, 1, 0, CALL, 2);
        add(f, 0, 5, CALL, 1);
        add(f, 1, 5, CONTINUE, 0);
        add(f, 0, 6, PRINT, 0, OTHER);
        add(f, 2, 0, DO, 0, 6, fixed(7, 1), 1, 1, 1);
        add(f, 2, 6, CONTINUE, 0);
        runs("three units with the same labels", f, 1000, DONE, 1 + 2 * (1 + 3 * (1 + 1 + 3 * (1 + 2 + 1)) + 1));
        printed("three units with the same labels", f, 4, 4);
        due("var of unit 0", f.value(0, VAR), 3);
        due("var of unit 1", f.value(1, fixed(7, 1)), 4);
        due("var of unit 2", f.value(2, fixed(7, 1)), 2);
        // A statement that is no DO, but whose first operand is the number of the label, is no loop.
        FortranStatic h = fresh();
        add(h, 0, 0, DO, 0, 5, VAR, 1, 2, 1);
        add(h, 0, 0, GOTO, 1, 5, 6);
        add(h, 0, 0, IF, 0, 5, OTHER, 6, 6, 6);
        add(h, 0, 6, PRINT, 0, 5);
        add(h, 0, 5, CONTINUE, 0);
        runs("5 as a value", h, 100, DONE, 1 + 2 * 4);
        printed("5 as a value", h, 5, 5);
        // All of 62 loops with one end are stepped when none of them goes round.
        FortranStatic g = fresh();
        for (int i = 0; i < 62; i++) {
            add(g, 0, 0, DO, 0, 9, fixed(i % 8, 1), 0, 0, 1);
        }
        add(g, 0, 9, PRINT, 0, fixed(0, 1));
        runs("62 loops", g, 100, DONE, 63);
        printed("62 loops", g, 0);
        for (int name = 0; name <= 7; name++) {
            due("var of name " + name, g.value(0, fixed(name, 1)), name < 6 ? 8 : 7);
        }
    }

    private void loopsBefore() {
        // The DO that has no trip is not stepped itself, nor is one after it, though both have the end.
        FortranStatic f = fresh();
        add(f, 0, 0, DO, 0, 5, VAR, 1, 1, 10);
        add(f, 0, 0, DO, 0, 5, OTHER, 1, 0, 20);
        add(f, 0, 0, DO, 0, 5, THIRD, 1, 1, 30);
        add(f, 0, 5, PRINT, 0, 1);
        add(f, 0, 0, PRINT, 0, 2);
        runs("no trip in the middle", f, 100, DONE, 3);
        printed("no trip in the middle", f, 2);
        due("the one before", f.value(0, VAR), 11);
        due("itself", f.value(0, OTHER), 1);
        due("the one after", f.value(0, THIRD), 0);
        // The one after has begun before, was left, and keeps its counter while the one before it has no trip.
        FortranStatic g = fresh();
        int round = fixed(3, 1);
        add(g, 0, 0, GOTO, 1, 1, 6);
        add(g, 0, 4, DO, 0, 5, VAR, 1, 0, 10);
        add(g, 0, 6, DO, 0, 5, THIRD, 1, 3, 1);
        add(g, 0, 0, IF, 0, round, 0, 8, 8, 5);
        add(g, 0, 5, PRINT, 0, THIRD);
        add(g, 0, 0, GOTO, 2, round, 7, 9);
        add(g, 0, 7, ASSIGN, ADD, round, 2, 0);
        add(g, 0, 0, GOTO, 1, 1, 5);
        add(g, 0, 8, ASSIGN, ADD, round, 1, 0);
        add(g, 0, 0, GOTO, 1, 1, 4);
        add(g, 0, 9, STOP, 0);
        runs("the one after has begun before", g, 100, DONE, 16);
        printed("the one after has begun before", g, 1, 2, 3);
        due("the one before", g.value(0, VAR), 11);
        due("the one after", g.value(0, THIRD), 4);
    }

    private void latestFirst() {
        FortranStatic f = fresh();
        add(f, 0, 0, DO, 0, 5, VAR, 1, 2, 1);
        add(f, 0, 0, DO, 0, 5, OTHER, 1, 3, 1);
        add(f, 0, 0, ASSIGN, MUL, THIRD, VAR, 10);
        add(f, 0, 0, ASSIGN, ADD, THIRD, THIRD, OTHER);
        add(f, 0, 5, PRINT, 0, THIRD);
        runs("the inner one goes round first", f, 100, DONE, 1 + 2 * (1 + 3 * 3));
        printed("the inner one goes round first", f, 11, 12, 13, 21, 22, 23);
        // The wrong index of the earlier one is met only when the later one is spent.
        FortranStatic g = fresh();
        g.dimension(0, 3, 2);
        add(g, 0, 0, ASSIGN, ADD, OTHER, 1, 0);
        add(g, 0, 0, DO, 0, 5, indexed(3, 1), 1, 9, 1);
        add(g, 0, 0, DO, 0, 5, OTHER, 1, 3, 1);
        add(g, 0, 5, PRINT, 0, OTHER);
        runs("an index that the later one moves", g, 100, INDEX, 1 + 2 + 3);
        printed("an index that the later one moves", g, 1, 2, 3);
    }

    private void varIsStepped() {
        // It wraps at both ends.
        tripsOf(MAX - 1, MAX, 1, 2);
        tripsOf(MIN + 1, MIN, -1, 2);
        tripsOf(MAX, MIN, 1, 2);
        // What the body makes of var is stepped, and the trips stay as they were.
        FortranStatic f = fresh();
        add(f, 0, 0, DO, 0, 5, VAR, 1, 3, 1);
        add(f, 0, 0, PRINT, 0, VAR);
        add(f, 0, 5, ASSIGN, MUL, VAR, VAR, 10);
        runs("the body changes var", f, 100, DONE, 7);
        printed("the body changes var", f, 1, 11, 111);
        due("var", f.value(0, VAR), 1111);
        // The cell is found anew, and may by then be none.
        FortranStatic g = fresh();
        g.dimension(0, 3, 2);
        add(g, 0, 0, ASSIGN, ADD, OTHER, 1, 0);
        add(g, 0, 0, DO, 0, 5, indexed(3, 1), 40, 45, 1);
        add(g, 0, 5, ASSIGN, ADD, OTHER, OTHER, 1);
        runs("the index moves out", g, 100, INDEX, 4);
        due("where it began", g.value(0, fixed(3, 1)), 40);
        due("where it went", g.value(0, fixed(3, 2)), 1);
        // A loop that was never begun has a step of 0, but its index is looked at.
        FortranStatic h = fresh();
        add(h, 0, 0, ASSIGN, ADD, VAR, 6, 0);
        add(h, 0, 0, GOTO, 1, 1, 5);
        add(h, 0, 0, DO, 0, 5, VAR, 1, 3, 1);
        add(h, 0, 5, PRINT, 0, VAR);
        runs("never begun", h, 100, DONE, 3);
        due("never begun", h.value(0, VAR), 6);
        FortranStatic k = fresh();
        add(k, 0, 0, GOTO, 1, 1, 5);
        add(k, 0, 0, DO, 0, 5, indexed(3, 1), 1, 3, 1);
        add(k, 0, 5, PRINT, 0, 7);
        runs("never begun, a wrong index", k, 100, INDEX, 2);
        printed("never begun, a wrong index", k, 7);
        // A dummy as var is the cell that was passed.
        FortranStatic m = fresh();
        m.parameters(1, 1);
        add(m, 0, 0, CALL, 1 + 4, fixed(6, 1));
        add(m, 1, 0, DO, 0, 5, fixed(0, 1), 4, 6, 2);
        add(m, 1, 5, CONTINUE, 0);
        runs("a dummy as var", m, 100, DONE, 4);
        due("a dummy as var", m.value(0, fixed(6, 1)), 8);
    }

    private void counterDecreases() {
        int[] trips = {1, 2, 3, 17, 2499};
        for (int trip : trips) {
            FortranStatic f = fresh();
            add(f, 0, 0, DO, 0, 5, VAR, 1, trip, 1);
            add(f, 0, 0, CONTINUE, 0);
            add(f, 0, 5, ASSIGN, ADD, OTHER, OTHER, 1);
            runs(trip + " trips", f, 5000, DONE, 1 + 2 * trip);
            due(trip + " trips", f.value(0, OTHER), trip);
        }
        // At 0 and below it decreases on, and no jump to the end brings a trip back.
        FortranStatic f = fresh();
        add(f, 0, 0, DO, 0, 5, VAR, 1, 2, 1);
        add(f, 0, 5, PRINT, 0, VAR);
        add(f, 0, 0, ASSIGN, ADD, OTHER, OTHER, 1);
        add(f, 0, 0, IF, 0, OTHER, 5, 5, 6, 6);
        add(f, 0, 6, STOP, 0);
        runs("the end of a spent loop", f, 100, DONE, 1 + 1 + 5 * 3 + 1);
        printed("the end of a spent loop", f, 1, 2, 3, 4, 5, 6);
        due("var", f.value(0, VAR), 7);
        // The counter is kept while control is elsewhere, even in another unit.
        FortranStatic g = fresh();
        add(g, 0, 0, CALL, 1);
        add(g, 0, 0, CALL, 1);
        add(g, 1, 0, IF, 0, OTHER, 0, 5, 4, 5);
        add(g, 1, 4, DO, 0, 5, VAR, 1, 3, 1);
        add(g, 1, 0, ASSIGN, ADD, OTHER, OTHER, 1);
        add(g, 1, 0, IF, 0, OTHER, 1, 5, 6, 5);
        add(g, 1, 5, PRINT, 0, VAR);
        add(g, 1, 6, RETURN, 0);
        runs("left by RETURN and entered at its end", g, 100, DONE, 1 + 5 + 1 + 2 + 3 + 3 + 1);
        printed("left by RETURN and entered at its end", g, 1, 2, 3);
    }

    private void goesRound() {
        // To the statement after that DO, and not to the DO: the start is not taken again.
        FortranStatic f = fresh();
        add(f, 0, 0, DO, 0, 5, VAR, 1, 2, 1);
        add(f, 1, 0, PRINT, 0, 8);
        add(f, 0, 0, PRINT, 0, VAR);
        add(f, 0, 5, PRINT, 0, 9);
        runs("two trips", f, 100, DONE, 5);
        printed("two trips", f, 1, 9, 2, 9);
        // One trip: the counter comes to 0 and control does not go round.
        FortranStatic g = fresh();
        add(g, 0, 0, DO, 0, 5, VAR, 1, 1, 1);
        add(g, 0, 5, PRINT, 0, VAR);
        runs("one trip", g, 100, DONE, 2);
        printed("one trip", g, 1);
        // And stop: the earlier loops are not stepped.
        FortranStatic h = fresh();
        add(h, 0, 0, DO, 0, 5, VAR, 1, 5, 1);
        add(h, 0, 0, DO, 0, 5, OTHER, 1, 4, 1);
        add(h, 0, 5, PRINT, 0, VAR);
        runs("inside the first trip of the outer loop", h, 6, STEPS, 6);
        printed("inside the first trip of the outer loop", h, 1, 1, 1, 1);
        due("the outer var, when the inner is spent", h.value(0, VAR), 2);
        runs("just before", h, 5, STEPS, 5);
        due("the outer var, before", h.value(0, VAR), 1);
        due("the inner var, before", h.value(0, OTHER), 4);
    }

    private void goesOn() {
        FortranStatic f = fresh();
        add(f, 0, 0, DO, 0, 5, VAR, 1, 2, 1);
        add(f, 0, 0, DO, 0, 5, OTHER, 1, 1, 1);
        add(f, 0, 5, CONTINUE, 0);
        add(f, 1, 0, PRINT, 0, 8);
        add(f, 0, 0, PRINT, 0, 3);
        runs("after T", f, 100, DONE, 6);
        printed("after T", f, 3);
        // After T also when T itself was not reached.
        FortranStatic h = fresh();
        add(h, 0, 0, DO, 0, 5, VAR, 1, 2, 1);
        add(h, 0, 0, DO, 0, 5, OTHER, 1, 0, 1);
        add(h, 0, 0, PRINT, 0, 7);
        add(h, 0, 5, PRINT, 0, 8);
        add(h, 0, 0, PRINT, 0, 9);
        runs("after a T that was not reached", h, 100, DONE, 4);
        printed("after a T that was not reached", h, 9);
        // Nothing after T: the unit is left.
        FortranStatic g = fresh();
        add(g, 0, 0, CALL, 1);
        add(g, 0, 0, PRINT, 0, 4);
        add(g, 1, 0, DO, 0, 5, VAR, 1, 2, 1);
        add(g, 1, 5, CONTINUE, 0);
        runs("nothing after T", g, 100, DONE, 5);
        printed("nothing after T", g, 4);
    }
}
