/** Sentences of promise 8 that name a boundary case: how a run starts, counts, ends and goes wrong. */
public final class BoundsOfRunTest extends Bounds {
    private static final int DIVZERO = FortranStatic.RUN_DIVZERO;
    private static final int ZEROSTEP = FortranStatic.RUN_ZEROSTEP;
    private static final int RECURSION = FortranStatic.RUN_RECURSION;
    private static final int OUTPUT_FULL = FortranStatic.RUN_OUTPUT_FULL;

    public static void main(String[] args) {
        new BoundsOfRunTest().look(args);
    }

    @Override
    void sentences() {
        holds("8.1", "clamps maxSteps into 1..5000.", this::maxSteps);
        holds("8.2", "It is refused (answers RUN_REFUSED, changes nothing, not counted as a run) unless compile() answered C_OK.", this::refusedRuns);
        holds("8.3", "every cell is 0", this::cellsStartAtZero);
        holds("8.4", "each DO's counter and saved step are 0", this::countersStartAtZero);
        holds("8.5", "the output is empty", this::outputStartsEmpty);
        holds("8.6", "no unit is active", this::noUnitStartsActive);
        holds("8.7", "the step count is 0", this::stepsStartAtZero);
        holds("8.8", "unit 0 becomes active and control goes to its first statement.", this::firstStatement);
        holds("8.9", "Each run starts afresh like this; the program never changes.", this::programNeverChanges);
        holds("8.10", "Before a statement is executed: if the step count equals maxSteps the run ends RUN_STEPS", this::stepsRunOut);
        holds("8.11", "else the count grows by 1.", this::stepsGrow);
        holds("8.12", "The run ends RUN_DONE on STOP", this::stop);
        holds("8.13", "on RETURN in unit 0", this::returnInMain);
        holds("8.14", "or when control passes the last statement of unit 0", this::pastTheLast);
        holds("8.15", "(or unit 0 has none)", this::mainHasNone);
        holds("8.16", "Passing the last statement of a subroutine acts as RETURN.", this::pastTheLastOfSubroutine);
        holds("8.17", "A run error ends the run at once; earlier writes stay.", this::errorsEndAtOnce);
        holds("8.18", "Operands are used left to right; the first error ends the run.", this::leftToRight);
        holds("8.19", "In ASSIGN: a, b, the zero-divisor test, then dest's cell is found.", this::orderInAssign);
        holds("8.20", "In DO: start, limit, step, the zero-step test, then var's cell is found.", this::orderInDo);
        holds("8.21", "In PRINT: the output-full test comes before a is read.", this::orderInPrint);
        holds("8.22", "The answer is how the run ended.", this::answers);
        holds("8.23", "OP_DIV with y = 0 ends the run RUN_DIVZERO", this::zeroDivisor);
        holds("8.24", "then dest's cell gets x+y, x-y, x*y or x/y (truncating toward 0, wrapping, as Java int arithmetic).", this::arithmetic);
        holds("8.25", "d = a - b (wrapping)", this::wrappedDifference);
        holds("8.26", "go to label neg if d < 0, zero if d = 0, pos if d > 0.", this::threeWays);
        holds("8.27", "if 1 <= v <= k go to label v (the v-th label operand), else go to the next statement.", this::computedGoto);
        holds("8.50", "if unit s is active the run ends RUN_RECURSION", this::recursion);
        holds("8.51", "the cells of arg 1..c are found in order; dummy j-1 of s is bound to the cell of arg j", this::arguments);
        holds("8.52", "s becomes active; control goes to the first statement of s", this::firstStatementOfSubroutine);
        holds("8.53", "(if s has no statement, back at once as by RETURN; that counts no step).", this::emptySubroutine);
        holds("8.54", "RETURN in s: s stops being active", this::returnDeactivates);
        holds("8.55", "and its CALL is Done in the caller.", this::callIsDone);
        holds("8.56", "if the output holds outputCapacity values the run ends RUN_OUTPUT_FULL", this::outputFull);
        holds("8.57", "else the value of a is appended.", this::outputGrows);
        holds("8.58", "Go to label L: to the statement labelled L in the current unit.", this::labelsOfTheCurrentUnit);
        holds("8.59", "The step count, the output and the cell contents at the end of the run are kept for the getters"
            + " until the next run that is not refused.", this::kept);
    }

    private void maxSteps() {
        int[] given = {MIN, -5000, -1, 0, 1, 2, 4999, 5000, 5001, 10000, 65536 + 3, MAX};
        int[] clamped = {1, 1, 1, 1, 1, 2, 4999, 5000, 5000, 5000, 5000, 5000};
        FortranStatic f = fresh();
        add(f, 0, 1, GOTO, 1, 1, 1);
        for (int i = 0; i < given.length; i++) {
            runs("an endless program", f, given[i], STEPS, clamped[i]);
        }
        FortranStatic g = fresh();
        add(g, 0, 0, PRINT, 0, 1);
        runs("one step is always left", g, 0, DONE, 1);
    }

    private void refusedRuns() {
        for (int answer = 1; answer <= 8; answer++) {
            FortranStatic f = answering(answer);
            refused("a run before compile()", f, () -> f.run(100) != FortranStatic.RUN_REFUSED);
            compiles("program", f, answer);
            if (answer != OK) {
                refused("a run after answer " + answer, f, () -> f.run(100) != FortranStatic.RUN_REFUSED);
                refused("a run after answer " + answer, f, () -> f.run(0) != FortranStatic.RUN_REFUSED);
                due("Q_RUN", f.query(FortranStatic.Q_RUN, 0, 0), 0);
                due("value", f.value(0, fixed(0, 1)), 0);
            } else {
                runs("accepted", f, 100, DONE, 1);
            }
        }
        // A refused run does not compile: the program stays open.
        FortranStatic f = fresh();
        f.run(100);
        accepted("still open", f.statement(0, 0, STOP, 0));
        due("not compiled", f.query(FortranStatic.Q_COMPILED, 0, 0), 0);
    }

    private void cellsStartAtZero() {
        FortranStatic f = fresh();
        for (int unit = 0; unit <= 3; unit++) {
            for (int name = 0; name <= 7; name++) {
                f.dimension(unit, name, 16);
            }
            add(f, unit, 0, PRINT, 0, fixed(unit, 1));
            add(f, unit, 0, PRINT, 0, fixed(7, 16));
            add(f, unit, 0, ASSIGN, ADD, fixed(unit, 1), 5, unit);
            add(f, unit, 0, ASSIGN, ADD, fixed(7, 16), 6, unit);
        }
        for (int unit = 1; unit <= 3; unit++) {
            add(f, 0, 0, CALL, unit);
        }
        for (int run = 0; run < 3; run++) {
            runs("run " + run, f, 100, DONE, 19);
            printed("run " + run, f, 0, 0, 0, 0, 0, 0, 0, 0);
        }
        due("run of one step", f.run(1), STEPS);
        for (int unit = 0; unit <= 3; unit++) {
            due("first cell of unit " + unit, f.value(unit, fixed(unit, 1)), 0);
            due("last cell of unit " + unit, f.value(unit, fixed(7, 16)), 0);
        }
    }

    /** Enters the loop at its end first: a counter or a step that an earlier run left would show. */
    private void countersStartAtZero() {
        FortranStatic f = fresh();
        add(f, 0, 0, GOTO, 1, 1, 5);
        add(f, 0, 4, DO, 0, 5, fixed(0, 1), 1, 9, 2);
        add(f, 0, 5, PRINT, 0, fixed(0, 1));
        add(f, 0, 0, PRINT, 0, 77);
        add(f, 0, 0, GOTO, 1, 1, 4);
        runs("the first run is cut off in the loop", f, 8, STEPS, 8);
        printed("the first run is cut off in the loop", f, 0, 77, 1, 3, 5);
        runs("the second begins alike", f, 3, STEPS, 3);
        printed("the second begins alike", f, 0, 77);
        due("var is not stepped", f.value(0, fixed(0, 1)), 0);
        // The step alone: the loop of the first run has come to its end, but its step was kept.
        FortranStatic g = fresh();
        add(g, 0, 0, GOTO, 1, 1, 5);
        add(g, 0, 4, DO, 0, 5, fixed(0, 1), 1, 1, 7);
        add(g, 0, 5, PRINT, 0, fixed(0, 1));
        add(g, 0, 0, ASSIGN, ADD, fixed(1, 1), fixed(1, 1), 1);
        add(g, 0, 0, IF, 0, fixed(1, 1), 2, 4, 6, 6);
        add(g, 0, 6, STOP, 0);
        for (int run = 0; run < 3; run++) {
            runs("run " + run, g, 100, DONE, 9);
            printed("run " + run, g, 0, 1);
            due("var", g.value(0, fixed(0, 1)), 8);
        }
    }

    private void outputStartsEmpty() {
        FortranStatic f = new FortranStatic(8, 4);
        for (int i = 1; i <= 4; i++) {
            add(f, 0, 0, PRINT, 0, i);
        }
        for (int run = 0; run < 3; run++) {
            runs("run " + run, f, 100, DONE, 4);
            printed("run " + run, f, 1, 2, 3, 4);
        }
        runs("a run cut off", f, 2, STEPS, 2);
        printed("a run cut off", f, 1, 2);
    }

    private void noUnitStartsActive() {
        FortranStatic f = fresh();
        add(f, 0, 0, CALL, 1);
        add(f, 1, 0, CALL, 2);
        add(f, 2, 0, CALL, 3);
        add(f, 3, 0, PRINT, 0, 1);
        add(f, 3, 0, STOP, 0);
        for (int run = 0; run < 3; run++) {
            runs("stopped inside three units", f, 100, DONE, 5);
            runs("cut off inside three units", f, 4, STEPS, 4);
        }
    }

    private void stepsStartAtZero() {
        FortranStatic f = fresh();
        add(f, 0, 0, CONTINUE, 0);
        add(f, 0, 0, CONTINUE, 0);
        for (int run = 0; run < 3; run++) {
            runs("run " + run, f, 2, DONE, 2);
        }
        FortranStatic g = fresh();
        add(g, 1, 0, CONTINUE, 0);
        runs("nothing to execute", g, 1, DONE, 0);
    }

    private void firstStatement() {
        FortranStatic f = fresh();
        add(f, 3, 0, PRINT, 0, 3);
        add(f, 1, 0, PRINT, 0, 1);
        add(f, 0, 9, PRINT, 0, 5);
        add(f, 2, 0, PRINT, 0, 2);
        add(f, 0, 1, PRINT, 0, 6);
        runs("unit 0 was not the first to be added", f, 100, DONE, 2);
        printed("unit 0 was not the first to be added", f, 5, 6);
        runs("again", f, 1, STEPS, 1);
        printed("again", f, 5);
    }

    private void programNeverChanges() {
        FortranStatic f = fresh();
        f.parameters(1, 1);
        f.dimension(0, 1, 4);
        f.common(0, 2, 1);
        f.equivalence(0, fixed(1, 4), fixed(2, 1));
        add(f, 0, 0, DO, 0, 7, fixed(0, 1), 1, 4, 1);
        add(f, 0, 7, CALL, 1 + 4, indexed(1, 0));
        add(f, 1, 0, ASSIGN, ADD, fixed(0, 1), fixed(5, 1), 3);
        add(f, 1, 0, ASSIGN, ADD, fixed(5, 1), fixed(5, 1), 1);
        compiles("program", f, OK);
        String first = "";
        for (int run = 0; run < 4; run++) {
            runs("run " + run, f, 100, DONE, 13);
            due("the last cell", f.value(0, fixed(2, 1)), 6);
            first = run == 0 ? everythingShown(f) : first;
            unchanged("run " + run, f, first);
            f.run(run + 2);
        }
    }

    private void stepsRunOut() {
        for (int limit = 1; limit <= 5; limit++) {
            FortranStatic f = fresh();
            add(f, 0, 0, PRINT, 0, 1);
            add(f, 0, 0, CALL, 1);
            add(f, 0, 0, STOP, 0);
            add(f, 1, 0, PRINT, 0, 2);
            runs("four statements, limit " + limit, f, limit, limit < 4 ? STEPS : DONE, Math.min(limit, 4));
            due("printed", f.query(FortranStatic.Q_OUTPUTS, 0, 0), limit < 3 ? 1 : 2);
        }
        // The statement that is not executed writes nothing and can do no wrong.
        FortranStatic f = fresh();
        add(f, 0, 0, ASSIGN, ADD, fixed(0, 1), 1, 0);
        add(f, 0, 0, ASSIGN, DIV, fixed(0, 1), 1, 0);
        runs("just before an error", f, 1, STEPS, 1);
        runs("at the error", f, 2, DIVZERO, 2);
        // Passing the last statement is no step: the run is done though no step is left.
        FortranStatic g = fresh();
        add(g, 0, 0, CALL, 1);
        add(g, 1, 0, CALL, 2);
        add(g, 2, 0, CONTINUE, 0);
        runs("three returns after the last step", g, 3, DONE, 3);
    }

    private void stepsGrow() {
        FortranStatic f = fresh();
        f.parameters(1, 1);
        add(f, 0, 0, ASSIGN, ADD, fixed(0, 1), 1, 0);
        add(f, 0, 0, IF, 0, 1, 1, 1, 1, 1);
        add(f, 0, 1, GOTO, 1, 1, 2);
        add(f, 0, 2, DO, 0, 3, fixed(1, 1), 1, 3, 1);
        add(f, 0, 3, CONTINUE, 0);
        add(f, 0, 0, DO, 0, 4, fixed(1, 1), 1, 0, 1);
        add(f, 0, 4, CONTINUE, 0);
        add(f, 0, 0, CALL, 1 + 4, fixed(0, 1));
        add(f, 1, 0, RETURN, 0);
        add(f, 0, 0, CALL, 2);
        add(f, 0, 0, PRINT, 0, 1);
        add(f, 0, 0, STOP, 0);
        runs("each statement of each kind is one step", f, 100, DONE, 1 + 1 + 1 + 4 + 1 + 2 + 1 + 1 + 1);
        // The statement that goes wrong was counted.
        FortranStatic g = fresh();
        add(g, 0, 0, PRINT, 0, indexed(0, 0));
        runs("an error at once", g, 100, INDEX, 1);
    }

    private void stop() {
        for (int unit = 0; unit <= 3; unit++) {
            FortranStatic f = fresh();
            add(f, unit, 0, STOP, 0);
            add(f, unit, 0, PRINT, 0, 8);
            for (int caller = 0; caller < unit; caller++) {
                add(f, caller, 0, CALL, caller + 1);
                add(f, caller, 0, PRINT, 0, 9);
            }
            runs("STOP in unit " + unit, f, 100, DONE, unit + 1);
            printed("STOP in unit " + unit, f);
        }
        FortranStatic f = fresh();
        add(f, 0, 0, STOP, 0);
        runs("a STOP as the last step that is left", f, 1, DONE, 1);
    }

    private void returnInMain() {
        FortranStatic f = fresh();
        add(f, 0, 0, CALL, 1);
        add(f, 0, 0, RETURN, 0);
        add(f, 0, 0, PRINT, 0, 9);
        add(f, 1, 0, RETURN, 0);
        add(f, 1, 0, PRINT, 0, 8);
        runs("RETURN in unit 0", f, 100, DONE, 3);
        printed("RETURN in unit 0", f);
        FortranStatic g = fresh();
        add(g, 0, 0, RETURN, 0);
        runs("at once", g, 1, DONE, 1);
    }

    /** Adds to unit, for each way, statements that pass its last one in that way; answers their steps. */
    private int passTheLast(FortranStatic f, int unit, int way) {
        if (way == 0) {
            add(f, unit, 0, ASSIGN, ADD, fixed(0, 1), 1, 0);
            return 1;
        } else if (way == 1) {
            add(f, unit, 0, GOTO, 4, 5, 1, 1, 1, 1);
            f.statement(unit, 1, GOTO, 1);
            f.operand(0);
            f.operand(1);
            return 2;
        } else if (way == 2) {
            add(f, unit, 0, DO, 0, 1, fixed(0, 1), 1, 2, 1);
            add(f, unit, 1, CONTINUE, 0);
            return 3;
        } else if (way == 3) {
            add(f, unit, 0, DO, 0, 1, fixed(0, 1), 2, 1, 1);
            add(f, unit, 1, PRINT, 0, 77);
            return 1;
        }
        add(f, unit, 0, CONTINUE, 0);
        return 1;
    }

    private void pastTheLast() {
        for (int way = 0; way <= 4; way++) {
            FortranStatic f = fresh();
            add(f, 1, 0, PRINT, 0, 66);
            int steps = passTheLast(f, 0, way);
            add(f, 1, 0, PRINT, 0, 88);
            runs("way " + way, f, steps, DONE, steps);
            printed("way " + way, f);
        }
        FortranStatic f = fresh();
        add(f, 0, 0, CALL, 1);
        add(f, 1, 0, RETURN, 0);
        runs("a CALL as the last one", f, 2, DONE, 2);
    }

    private void mainHasNone() {
        runs("no statement at all", fresh(), 1, DONE, 0);
        FortranStatic f = fresh();
        for (int unit = 1; unit <= 3; unit++) {
            add(f, unit, 0, PRINT, 0, unit);
        }
        runs("statements of other units only", f, 100, DONE, 0);
        printed("statements of other units only", f);
    }

    private void pastTheLastOfSubroutine() {
        for (int unit = 1; unit <= 3; unit++) {
            for (int way = 0; way <= 4; way++) {
                FortranStatic f = fresh();
                add(f, 0, 0, CALL, unit);
                int steps = passTheLast(f, unit, way);
                add(f, 0, 0, CALL, unit);
                add(f, 0, 0, PRINT, 0, 5);
                runs("unit " + unit + ", way " + way, f, 100, DONE, 2 * steps + 3);
                printed("unit " + unit + ", way " + way, f, 5);
            }
        }
    }

    private void errorsEndAtOnce() {
        int[][] kinds = {{ASSIGN, DIV}, {ASSIGN, ADD}, {DO, 0}, {CALL, 1}, {PRINT, 0}};
        int[][] codes = {{fixed(0, 1), 1, 0}, {indexed(0, 1), 1, 1}, {9, fixed(0, 1), 1, 1, 0}, {}, {indexed(0, 1)}};
        int[] answers = {DIVZERO, INDEX, ZEROSTEP, RECURSION, INDEX};
        for (int i = 0; i < kinds.length; i++) {
            FortranStatic f = fresh();
            add(f, 0, 0, ASSIGN, ADD, fixed(4, 1), 44, 0);
            add(f, 0, 0, PRINT, 0, 55);
            add(f, 0, 0, CALL, 1);
            add(f, 0, 0, ASSIGN, ADD, fixed(5, 1), 66, 0);
            add(f, 1, 0, ASSIGN, ADD, fixed(0, 1), 33, 0);
            add(f, 1, 0, kinds[i][0], kinds[i][1], codes[i]);
            add(f, 1, 0, ASSIGN, ADD, fixed(0, 1), 77, 0);
            add(f, 1, 9, PRINT, 0, 88);
            runs("error " + answers[i], f, 100, answers[i], 5);
            due("a write before", f.value(0, fixed(4, 1)), 44);
            due("a write just before", f.value(1, fixed(0, 1)), 33);
            due("no write after", f.value(0, fixed(5, 1)), 0);
            printed("error " + answers[i], f, 55);
        }
        FortranStatic f = new FortranStatic(8, 4);
        for (int i = 0; i < 5; i++) {
            add(f, 0, 0, PRINT, 0, 20 + i);
        }
        add(f, 0, 0, ASSIGN, ADD, fixed(0, 1), 1, 0);
        runs("the output is full", f, 100, OUTPUT_FULL, 5);
        printed("the output is full", f, 20, 21, 22, 23);
        due("no write after", f.value(0, fixed(0, 1)), 0);
    }

    /** One statement that must end with this answer as the second step; indexed(0, 7) is out of range all along. */
    private void ends(String what, int answer, int kind, int extra, int... codes) {
        FortranStatic f = fresh();
        f.parameters(3, 2);
        add(f, 0, 0, ASSIGN, ADD, fixed(1, 1), 5, 0);
        add(f, 0, 0, kind, extra, codes);
        add(f, 0, 9, PRINT, 0, 4);
        add(f, 3, 0, PRINT, 0, 5);
        runs(what, f, 100, answer, 2);
        printed(what, f);
        due(what + ": nothing is written", f.value(0, fixed(1, 1)), 5);
    }

    private void leftToRight() {
        int wrong = indexed(0, 7);
        ends("ASSIGN a", INDEX, ASSIGN, DIV, fixed(1, 1), wrong, 0);
        ends("IF a", INDEX, IF, 0, wrong, 1, 9, 9, 9);
        ends("IF b", INDEX, IF, 0, 1, wrong, 9, 9, 9);
        ends("GOTO", INDEX, GOTO, 2, wrong, 9, 9);
        ends("DO start", INDEX, DO, 0, 9, fixed(1, 1), wrong, 1, 0);
        ends("DO limit", INDEX, DO, 0, 9, fixed(1, 1), 1, wrong, 0);
        ends("DO step", INDEX, DO, 0, 9, fixed(1, 1), 1, 1, wrong);
        ends("CALL arg 1", INDEX, CALL, 3 + 8, wrong, fixed(1, 1));
        ends("CALL arg 2", INDEX, CALL, 3 + 8, fixed(1, 1), wrong);
        ends("PRINT", INDEX, PRINT, 0, wrong);
    }

    private void orderInAssign() {
        int wrong = indexed(0, 7);
        ends("a is wrong, the divisor 0", INDEX, ASSIGN, DIV, fixed(1, 1), wrong, 0);
        ends("b is wrong", INDEX, ASSIGN, DIV, fixed(1, 1), 1, wrong);
        ends("the divisor 0, dest wrong", DIVZERO, ASSIGN, DIV, wrong, 1, 0);
        ends("dest wrong", INDEX, ASSIGN, DIV, wrong, 1, 1);
        ends("dest wrong, for a sum", INDEX, ASSIGN, ADD, wrong, 1, 0);
        ends("all wrong", INDEX, ASSIGN, DIV, wrong, wrong, fixed(0, 1));
    }

    private void orderInDo() {
        int wrong = indexed(0, 7);
        ends("start is wrong, the step 0", INDEX, DO, 0, 9, fixed(1, 1), wrong, 1, 0);
        ends("limit is wrong, the step 0", INDEX, DO, 0, 9, fixed(1, 1), 1, wrong, 0);
        ends("step is wrong", INDEX, DO, 0, 9, fixed(1, 1), 1, 1, wrong);
        ends("the step 0, var wrong", ZEROSTEP, DO, 0, 9, wrong, 1, 1, 0);
        ends("var wrong", INDEX, DO, 0, 9, wrong, 1, 1, 1);
        ends("var wrong, no trip", INDEX, DO, 0, 9, wrong, 2, 1, 1);
        // All three values are taken before var, which is also each of them, gets the first.
        FortranStatic f = fresh();
        add(f, 0, 0, ASSIGN, ADD, fixed(0, 1), 6, 0);
        add(f, 0, 0, DO, 0, 9, fixed(0, 1), 2, fixed(0, 1), fixed(0, 1));
        add(f, 0, 9, PRINT, 0, fixed(0, 1));
        runs("var as limit and step", f, 100, DONE, 3);
        printed("var as limit and step", f, 2);
        due("var as limit and step", f.value(0, fixed(0, 1)), 8);
    }

    private void orderInPrint() {
        FortranStatic f = new FortranStatic(8, 4);
        for (int i = 0; i < 4; i++) {
            add(f, 0, 0, PRINT, 0, i);
        }
        add(f, 0, 0, PRINT, 0, indexed(0, 1));
        runs("full, and the index wrong", f, 100, OUTPUT_FULL, 5);
        FortranStatic g = new FortranStatic(8, 4);
        for (int i = 0; i < 3; i++) {
            add(g, 0, 0, PRINT, 0, i);
        }
        add(g, 0, 0, PRINT, 0, indexed(0, 1));
        runs("not full, but the index wrong", g, 100, INDEX, 4);
        printed("not full, but the index wrong", g, 0, 1, 2);
    }

    private void answers() {
        FortranStatic f = new FortranStatic(16, 4);
        add(f, 0, 1, PRINT, 0, 1);
        add(f, 0, 0, GOTO, 1, 1, 1);
        runs("full", f, 100, OUTPUT_FULL, 9);
        runs("steps", f, 8, STEPS, 8);
        runs("full, with just the steps for it", f, 9, OUTPUT_FULL, 9);
        ends("index", INDEX, PRINT, 0, indexed(0, 7));
        ends("division", DIVZERO, ASSIGN, DIV, fixed(1, 1), 1, 0);
        ends("step", ZEROSTEP, DO, 0, 9, fixed(1, 1), 1, 1, 0);
        ends("stop", DONE, STOP, 0);
        FortranStatic g = fresh();
        add(g, 0, 0, CALL, 2);
        add(g, 2, 0, CALL, 2);
        runs("recursion", g, 100, RECURSION, 2);
        FortranStatic h = fresh();
        due("refused", h.run(10), FortranStatic.RUN_REFUSED);
    }

    private void zeroDivisor() {
        int[] dividends = {0, 1, 9999};
        for (int x : dividends) {
            ends(x + " / 0", DIVZERO, ASSIGN, DIV, fixed(1, 1), x, 0);
            ends(x + " / a cell that is 0", DIVZERO, ASSIGN, DIV, fixed(1, 1), x, fixed(2, 1));
        }
        int[] others = {ADD, SUB, MUL};
        for (int operator : others) {
            FortranStatic f = fresh();
            add(f, 0, 0, ASSIGN, operator, fixed(0, 1), 7, 0);
            runs("0 with operator " + operator, f, 100, DONE, 1);
            due("0 with operator " + operator, f.value(0, fixed(0, 1)), operator == MUL ? 0 : 7);
        }
        FortranStatic f = fresh();
        add(f, 0, 0, ASSIGN, DIV, fixed(0, 1), 0, 1);
        runs("0 / 1", f, 100, DONE, 1);
    }

    private int computed(int operator, int x, int y) {
        FortranStatic f = fresh();
        build(f, 0, fixed(0, 1), x);
        build(f, 0, fixed(1, 1), y);
        add(f, 0, 0, ASSIGN, operator, fixed(2, 1), fixed(0, 1), fixed(1, 1));
        runs("operator " + operator + " with " + x + " and " + y, f, 100, DONE, 15);
        return f.value(0, fixed(2, 1));
    }

    private void arithmetic() {
        due("7 / 2", computed(DIV, 7, 2), 3);
        due("-7 / 2", computed(DIV, -7, 2), -3);
        due("7 / -2", computed(DIV, 7, -2), -3);
        due("-7 / -2", computed(DIV, -7, -2), 3);
        due("1 / 2", computed(DIV, 1, 2), 0);
        due("-1 / 2", computed(DIV, -1, 2), 0);
        due("MIN / -1", computed(DIV, MIN, -1), MIN);
        due("MIN / MIN", computed(DIV, MIN, MIN), 1);
        due("MAX / MIN", computed(DIV, MAX, MIN), 0);
        due("MAX + MAX", computed(ADD, MAX, MAX), -2);
        due("MIN + MIN", computed(ADD, MIN, MIN), 0);
        due("MIN - MAX", computed(SUB, MIN, MAX), 1);
        due("3 - 5", computed(SUB, 3, 5), -2);
        due("MAX * MAX", computed(MUL, MAX, MAX), 1);
        due("MIN * MIN", computed(MUL, MIN, MIN), 0);
        due("46341 * 46341", computed(MUL, 46341, 46341), -2147479015);
    }

    private int wayOf(int a, int b) {
        FortranStatic f = fresh();
        build(f, 0, fixed(0, 1), a);
        build(f, 0, fixed(1, 1), b);
        add(f, 0, 0, IF, 0, fixed(0, 1), fixed(1, 1), 10, 20, 30);
        add(f, 0, 0, PRINT, 0, 99);
        int[] labels = {30, 10, 20};
        for (int label : labels) {
            add(f, 0, label, PRINT, 0, label);
            add(f, 0, 0, STOP, 0);
        }
        runs("IF of " + a + " and " + b, f, 100, DONE, 17);
        due("printed", f.query(FortranStatic.Q_OUTPUTS, 0, 0), 1);
        return f.output(0);
    }

    private void wrappedDifference() {
        due("MIN and 1", wayOf(MIN, 1), 30);
        due("MAX and -1", wayOf(MAX, -1), 10);
        due("MIN and MAX", wayOf(MIN, MAX), 30);
        due("MAX and MIN", wayOf(MAX, MIN), 10);
        due("0 and MIN", wayOf(0, MIN), 10);
        due("MIN and 0", wayOf(MIN, 0), 10);
        due("MIN and MIN", wayOf(MIN, MIN), 20);
    }

    private void threeWays() {
        due("4 and 5", wayOf(4, 5), 10);
        due("5 and 5", wayOf(5, 5), 20);
        due("6 and 5", wayOf(6, 5), 30);
        due("-1 and 0", wayOf(-1, 0), 10);
        due("0 and 0", wayOf(0, 0), 20);
        due("1 and 0", wayOf(1, 0), 30);
        due("MAX and 0", wayOf(MAX, 0), 30);
    }

    private void computedGoto() {
        int[] values = {MIN, -1, 0, 1, 2, 3, 4, 5, 6, MAX};
        for (int k = 1; k <= 4; k++) {
            for (int v : values) {
                FortranStatic f = fresh();
                build(f, 0, fixed(0, 1), v);
                accepted("GOTO", f.statement(0, 0, GOTO, k));
                f.operand(fixed(0, 1));
                for (int i = 1; i <= k; i++) {
                    f.operand(50 - 10 * i);
                }
                add(f, 0, 0, PRINT, 0, 99);
                add(f, 0, 0, STOP, 0);
                for (int label = 10; label <= 40; label += 10) {
                    add(f, 0, label, PRINT, 0, label);
                    add(f, 0, 0, STOP, 0);
                }
                runs("GOTO " + v + " of " + k, f, 100, DONE, 10);
                printed("GOTO " + v + " of " + k, f, v >= 1 && v <= k ? 50 - 10 * v : 99);
            }
        }
        // The next statement of the unit, whatever was added between.
        FortranStatic f = fresh();
        add(f, 0, 5, GOTO, 1, 0, 5);
        add(f, 1, 0, PRINT, 0, 1);
        add(f, 0, 0, PRINT, 0, 2);
        runs("next of the unit", f, 100, DONE, 2);
        printed("next of the unit", f, 2);
    }

    private void recursion() {
        for (int unit = 1; unit <= 3; unit++) {
            FortranStatic f = fresh();
            add(f, 0, 0, CALL, unit);
            add(f, unit, 0, PRINT, 0, 1);
            add(f, unit, 0, CALL, unit);
            runs("unit " + unit + " calls itself", f, 100, RECURSION, 3);
            printed("unit " + unit + " calls itself", f, 1);
        }
        FortranStatic f = fresh();
        add(f, 0, 0, CALL, 3);
        add(f, 3, 0, CALL, 2);
        add(f, 2, 0, CALL, 1);
        add(f, 1, 0, CALL, 3);
        runs("a ring of three", f, 100, RECURSION, 4);
        // The test comes before the arguments are found.
        FortranStatic g = fresh();
        g.parameters(1, 1);
        add(g, 0, 0, CALL, 1 + 4, fixed(0, 1));
        add(g, 1, 0, CALL, 1 + 4, indexed(1, 1));
        runs("a wrong argument of a recursive CALL", g, 100, RECURSION, 2);
        // Twice, one after the other, is no recursion.
        FortranStatic h = fresh();
        add(h, 0, 0, CALL, 1);
        add(h, 0, 0, CALL, 1);
        add(h, 1, 0, CALL, 2);
        add(h, 2, 0, PRINT, 0, 6);
        runs("one after the other", h, 100, DONE, 6);
        printed("one after the other", h, 6, 6);
    }

    private void arguments() {
        for (int c = 1; c <= 3; c++) {
            FortranStatic f = fresh();
            f.parameters(2, c);
            f.dimension(0, 6, 16);
            add(f, 0, 0, ASSIGN, ADD, fixed(0, 1), 16, 0);
            int[] codes = {indexed(6, 0), fixed(0, 1), fixed(6, 0)};
            accepted("CALL", f.statement(0, 0, CALL, 2 + 4 * c));
            for (int i = 0; i < c; i++) {
                accepted("argument", f.operand(codes[i]));
            }
            for (int i = c - 1; i >= 0; i--) {
                add(f, 2, 0, ASSIGN, ADD, fixed(i, 1), 31, i);
            }
            add(f, 2, 0, ASSIGN, ADD, fixed(c, 1), 77, 0);
            runs("with " + c, f, 100, DONE, 3 + c);
            // The index of the first argument has changed since; its cell is the one found at the CALL.
            due("argument 1", f.value(0, fixed(6, 16)), 31);
            due("argument 2", f.value(0, fixed(0, 1)), c >= 2 ? 32 : 16);
            due("argument 3", f.value(0, fixed(6, 1)), c >= 3 ? 33 : 0);
            due("the name after the last dummy", f.value(2, fixed(c, 1)), 77);
        }
        // One cell bound to all three, and a dummy passed on.
        FortranStatic f = fresh();
        f.parameters(1, 3);
        f.parameters(3, 1);
        add(f, 0, 0, CALL, 1 + 12, fixed(7, 1), fixed(7, 1), fixed(7, 1));
        add(f, 1, 0, ASSIGN, ADD, fixed(0, 1), fixed(2, 1), 2);
        add(f, 1, 0, ASSIGN, MUL, fixed(1, 1), fixed(0, 1), 5);
        add(f, 1, 0, CALL, 3 + 4, fixed(2, 1));
        add(f, 3, 0, ASSIGN, ADD, fixed(0, 1), fixed(0, 1), 1);
        runs("one cell three times", f, 100, DONE, 5);
        due("one cell three times", f.value(0, fixed(7, 1)), 11);
        // Each CALL binds anew.
        FortranStatic g = fresh();
        g.parameters(1, 1);
        add(g, 0, 0, CALL, 1 + 4, fixed(2, 1));
        add(g, 0, 0, CALL, 1 + 4, fixed(3, 1));
        add(g, 1, 0, ASSIGN, ADD, fixed(5, 1), fixed(5, 1), 1);
        add(g, 1, 0, ASSIGN, ADD, fixed(0, 1), fixed(5, 1), 0);
        runs("bound anew", g, 100, DONE, 6);
        due("bound first", g.value(0, fixed(2, 1)), 1);
        due("bound then", g.value(0, fixed(3, 1)), 2);
    }

    private void firstStatementOfSubroutine() {
        for (int unit = 1; unit <= 3; unit++) {
            FortranStatic f = fresh();
            add(f, 0, 0, CALL, unit);
            add(f, 0, 0, CALL, unit);
            add(f, unit == 1 ? 2 : 1, 1, PRINT, 0, 9);
            add(f, unit, 7, PRINT, 0, unit);
            add(f, unit, 0, ASSIGN, ADD, fixed(0, 1), fixed(0, 1), 1);
            add(f, unit, 0, GOTO, 1, fixed(0, 1), 1);
            add(f, unit, 0, CALL, unit);
            add(f, unit, 1, RETURN, 0);
            runs("unit " + unit + " is left in its middle, and begins anew", f, 100, FortranStatic.RUN_RECURSION, 10);
            printed("unit " + unit + " is left in its middle, and begins anew", f, unit, unit);
        }
    }

    private void emptySubroutine() {
        for (int unit = 1; unit <= 3; unit++) {
            FortranStatic f = fresh();
            f.parameters(unit, 1);
            add(f, 0, 0, CALL, unit + 4, fixed(0, 1));
            add(f, 0, 0, CALL, unit + 4, fixed(0, 1));
            add(f, 0, 0, PRINT, 0, 7);
            runs("empty unit " + unit, f, 3, DONE, 3);
            printed("empty unit " + unit, f, 7);
            FortranStatic g = fresh();
            add(g, 0, 0, CALL, unit);
            runs("as the last step that is left", g, 1, DONE, 1);
            FortranStatic h = fresh();
            h.parameters(unit, 1);
            add(h, 0, 0, CALL, unit + 4, indexed(0, 1));
            runs("its arguments are found", h, 100, INDEX, 1);
        }
        // As by RETURN: the CALL is Done, and may end a loop.
        FortranStatic f = fresh();
        add(f, 0, 0, DO, 0, 5, fixed(0, 1), 1, 3, 1);
        add(f, 0, 5, CALL, 2);
        runs("at the end of a loop", f, 4, DONE, 4);
        due("var", f.value(0, fixed(0, 1)), 4);
    }

    private void returnDeactivates() {
        for (int way = 0; way <= 1; way++) {
            FortranStatic f = fresh();
            add(f, 0, 0, DO, 0, 5, fixed(0, 1), 1, 3, 1);
            add(f, 0, 0, CALL, 1);
            add(f, 0, 5, CALL, 2);
            add(f, 1, 0, CALL, 2);
            add(f, 2, 0, PRINT, 0, fixed(7, 1));
            if (way == 0) {
                add(f, 1, 0, RETURN, 0);
                add(f, 2, 0, RETURN, 0);
            }
            runs("called again after it returned", f, 100, DONE, way == 0 ? 1 + 3 * 8 : 1 + 3 * 5);
            due("calls", f.query(FortranStatic.Q_OUTPUTS, 0, 0), 6);
        }
        // The caller stays active when what it called returns.
        FortranStatic g = fresh();
        add(g, 0, 0, CALL, 1);
        add(g, 1, 0, CALL, 2);
        add(g, 1, 0, CALL, 1);
        add(g, 2, 0, RETURN, 0);
        runs("the caller stays active", g, 100, RECURSION, 4);
    }

    private void callIsDone() {
        FortranStatic f = fresh();
        add(f, 0, 0, CALL, 1);
        add(f, 0, 0, PRINT, 0, 1);
        add(f, 1, 0, CALL, 2);
        add(f, 1, 0, PRINT, 0, 2);
        add(f, 2, 0, CALL, 3);
        add(f, 2, 0, PRINT, 0, 3);
        add(f, 3, 0, RETURN, 0);
        add(f, 3, 0, PRINT, 0, 4);
        runs("each goes on after its CALL", f, 100, DONE, 7);
        printed("each goes on after its CALL", f, 3, 2, 1);
        // Done at the end of a loop of the caller: var is the caller's, though the callee has such a loop too.
        FortranStatic g = fresh();
        add(g, 0, 0, DO, 0, 5, fixed(0, 1), 1, 2, 1);
        add(g, 0, 5, CALL, 1);
        add(g, 1, 0, DO, 0, 5, fixed(0, 1), 1, 3, 1);
        add(g, 1, 5, CALL, 2);
        add(g, 2, 5, PRINT, 0, 8);
        runs("loops that end in a CALL", g, 100, DONE, 1 + 2 * (2 + 3 * 2));
        due("outer var", g.value(0, fixed(0, 1)), 3);
        due("inner var", g.value(1, fixed(0, 1)), 4);
        due("printed", g.query(FortranStatic.Q_OUTPUTS, 0, 0), 6);
    }

    private void outputFull() {
        int[] capacities = {4, 5, 31, 32};
        for (int capacity : capacities) {
            FortranStatic f = new FortranStatic(64, capacity);
            for (int i = 0; i < capacity; i++) {
                add(f, 0, 0, PRINT, 0, i + 1);
            }
            runs("just full", f, 100, DONE, capacity);
            due("outputs", f.query(FortranStatic.Q_OUTPUTS, 0, 0), capacity);
            due("the last", f.output(capacity - 1), capacity);
            FortranStatic g = new FortranStatic(64, capacity);
            for (int i = 0; i <= capacity; i++) {
                add(g, 0, 0, PRINT, 0, i + 1);
            }
            runs("one too many", g, 100, OUTPUT_FULL, capacity + 1);
            due("outputs", g.query(FortranStatic.Q_OUTPUTS, 0, 0), capacity);
            due("the last", g.output(capacity - 1), capacity);
            due("none after it", g.output(capacity), 0);
        }
    }

    private void outputGrows() {
        FortranStatic f = fresh();
        build(f, 0, fixed(0, 1), MIN);
        add(f, 0, 0, PRINT, 0, fixed(0, 1));
        add(f, 0, 0, PRINT, 0, 0);
        add(f, 0, 0, ASSIGN, SUB, fixed(0, 1), fixed(0, 1), 1);
        add(f, 0, 0, PRINT, 0, fixed(0, 1));
        add(f, 0, 0, PRINT, 0, fixed(0, 1));
        runs("values of any size, also equal ones", f, 100, DONE, 12);
        printed("values of any size, also equal ones", f, MIN, 0, MAX, MAX);
    }

    private void labelsOfTheCurrentUnit() {
        FortranStatic f = fresh();
        for (int unit = 3; unit >= 0; unit--) {
            add(f, unit, 0, GOTO, 1, 1, 99);
            add(f, unit, 0, PRINT, 0, 50 + unit);
            add(f, unit, 99, PRINT, 0, unit);
            add(f, unit, 0, IF, 0, 1, 1, 1, 1, 1);
            add(f, unit, 0, PRINT, 0, 60 + unit);
            add(f, unit, 1, PRINT, 0, 10 + unit);
            if (unit < 3) {
                add(f, unit, 0, CALL, unit + 1);
            }
        }
        runs("the same labels in every unit", f, 100, DONE, 19);
        printed("the same labels in every unit", f, 0, 10, 1, 11, 2, 12, 3, 13);
        // The first and the last statement as targets, forward and back.
        FortranStatic g = fresh();
        add(g, 0, 1, PRINT, 0, 1);
        add(g, 0, 0, IF, 0, fixed(0, 1), 0, 2, 2, 3);
        add(g, 0, 3, STOP, 0);
        add(g, 0, 4, GOTO, 1, 1, 1);
        add(g, 0, 2, ASSIGN, ADD, fixed(0, 1), 1, 0);
        add(g, 0, 0, GOTO, 1, 1, 4);
        runs("back to the first", g, 100, DONE, 8);
        printed("back to the first", g, 1, 1);
    }

    private void kept() {
        FortranStatic f = fresh();
        add(f, 0, 0, ASSIGN, ADD, fixed(0, 1), fixed(0, 1), 3);
        add(f, 0, 0, PRINT, 0, fixed(0, 1));
        add(f, 0, 0, ASSIGN, ADD, fixed(0, 1), 9, 0);
        runs("a whole run", f, 100, DONE, 3);
        String shown = everythingShown(f);
        f.compile();
        f.dimension(0, 0, 5);
        f.statement(0, 0, STOP, 0);
        f.operand(1);
        f.output(-1);
        f.value(0, fixed(0, 1));
        f.aliased(0, fixed(0, 1), 0, fixed(0, 1));
        f.query(99, 0, 0);
        unchanged("all that is no run", f, shown);
        due("steps", steps(f), 3);
        printed("kept", f, 3);
        due("value", f.value(0, fixed(0, 1)), 9);
        runs("the next run", f, 1, STEPS, 1);
        printed("the next run", f);
        due("value", f.value(0, fixed(0, 1)), 3);
    }
}
