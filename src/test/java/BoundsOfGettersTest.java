/** Sentences of promises 9 to 12 that name a boundary case. */
public final class BoundsOfGettersTest extends Bounds {
    private static final int[] NO_UNIT = {MIN, -1, 4, 5, MAX};
    private static final int[] ODD = {MIN, -1, 0, 3, 4, 100, MAX};
    private static final int LENGTH = FortranStatic.Q_LENGTH;
    private static final int PARAMS = FortranStatic.Q_PARAMS;
    private static final int COMMON = FortranStatic.Q_COMMON;
    private static final int EQUIV = FortranStatic.Q_EQUIV;
    private static final int STMT = FortranStatic.Q_STMT;
    private static final int PENDING = FortranStatic.Q_PENDING;
    private static final int COMPILED = FortranStatic.Q_COMPILED;
    private static final int EXTENT = FortranStatic.Q_EXTENT;
    private static final int RUN = FortranStatic.Q_RUN;
    private static final int STEP_COUNT = FortranStatic.Q_STEPS;
    private static final int OUTPUTS = FortranStatic.Q_OUTPUTS;

    public static void main(String[] args) {
        new BoundsOfGettersTest().look(args);
    }

    @Override
    void sentences() {
        holds("9.1", "answers the index-th (0-based) value output by the last run", this::outputs);
        holds("9.2", "0 if there is no such value (index negative", this::negativeIndex);
        holds("9.3", "or not less than the number output)", this::indexTooLarge);
        holds("9.4", "or no run was made.", this::outputBeforeRun);
        holds("9.5", "Changes nothing.", this::outputChangesNothing);
        holds("10.1", "answers the value of the cell named by fixed code in unit (0..3) when the last run ended", this::values);
        holds("10.2", "(i = 0 read as 1)", this::valueOfElementZero);
        holds("10.3", "0 if no run was made", this::valueBeforeRun);
        holds("10.4", "code is not fixed", this::valueOfOtherCodes);
        holds("10.5", "its name is a dummy", this::valueOfDummy);
        holds("10.6", "or i > length.", this::valuePastTheEnd);
        holds("10.7", "A cell that is the same cell as others shows their common content.", this::commonContent);
        holds("10.8", "Changes nothing.", this::valueChangesNothing);
        holds("10.9", "It also answers 0 when unit is outside 0..3.", this::valueOfNoUnit);
        holds("11.1", "after compile() answered C_OK, true iff a (fixed, in unitA) and b (fixed, in unitB)", this::aliasesOfFixed);
        holds("11.2", "both name cells of stored names", this::aliasesOfStored);
        holds("11.3", "with i <= length", this::aliasesWithinLength);
        holds("11.4", "(i = 0 read as 1)", this::aliasesOfElementZero);
        holds("11.5", "and these are the same cell.", this::aliasesOfSameCells);
        holds("11.6", "Otherwise false, including before compile()", this::aliasesBeforeCompile);
        holds("11.7", "after any other answer", this::aliasesAfterOtherAnswers);
        holds("11.8", "and for units outside 0..3.", this::aliasesOfNoUnit);
        holds("11.9", "Changes nothing; the answer does not depend on runs.", this::aliasesAndRuns);
        holds("12.1", "`query(kind, a, b)` changes nothing.", this::queryChangesNothing);
        holds("12.2", "Any kind or argument out of range answers -1.", this::outOfRange);
        holds("12.3", "Arguments not listed for a kind have no range and are ignored.", this::ignored);
        holds("12.4", "An index is in range only if 0 <= index < the number of entries, equivalences or statements recorded.", this::indexes);
        holds("12.5", "Fields are 0..2 for Q_EQUIV and 0..8 for Q_STMT.", this::fields);
        holds("12.6", "Q_LENGTH: a unit, b name: its length as set (default 1).", this::queryLength);
        holds("12.7", "Q_PARAMS: a unit (0..3): p(a).", this::queryParams);
        holds("12.8", "Q_COMMON: a unit, b index: 8*block + name of the b-th (0-based) entry of a's list.", this::queryCommon);
        holds("12.9", "Q_EQUIV: a index (0-based, order recorded), b field: 0 unit, 1 code a, 2 code b.", this::queryEquiv);
        holds("12.10", "Q_STMT: a index (0-based, order added over all units), b field: 0 unit, 1 label, 2 kind, 3 extra, 4..8 operand b-4",
            this::queryStmt);
        holds("12.11", "(-1 if not yet given or no such place)", this::missingOperands);
        holds("12.12", "Q_PENDING: operands the newest statement still awaits (0 if none).", this::queryPending);
        holds("12.13", "Q_COMPILED: 0 before compile(), else its answer.", this::queryCompiled);
        holds("12.14", "Q_EXTENT: a block 0..3: its extent after C_OK, else -1.", this::queryExtent);
        holds("12.15", "Q_RUN: answer of the last run not refused, 0 if none.", this::queryRun);
        holds("12.16", "Q_STEPS: step count when the last run ended, 0 if none.", this::querySteps);
        holds("12.17", "Q_OUTPUTS: number of values output by the last run, 0 if none.", this::queryOutputs);
        holds("12.18", "After C_OK, Q_EXTENT of block b equals the greatest block position plus one of any cell of any stored name"
            + " connected to block b", this::extentIsTheGreatestPosition);
        holds("12.19", "(0 if no name is connected)", this::extentOfNothing);
    }

    /** Prints 1 to count; capacity 32. */
    private FortranStatic printing(int count) {
        FortranStatic f = fresh();
        for (int i = 1; i <= count; i++) {
            add(f, 0, 0, PRINT, 0, i);
        }
        compiles("printing", f, OK);
        return f;
    }

    private void outputs() {
        int[] counts = {1, 2, 31, 32};
        for (int count : counts) {
            FortranStatic f = printing(count);
            f.run(100);
            for (int index = 0; index < count; index++) {
                due("output(" + index + ")", f.output(index), index + 1);
            }
        }
        FortranStatic f = printing(5);
        f.run(100);
        f.run(2);
        due("the first of the last run", f.output(0), 1);
        due("the last of the last run", f.output(1), 2);
        due("one of the run before", f.output(2), 0);
    }

    private void negativeIndex() {
        FortranStatic f = printing(32);
        f.run(100);
        int[] indexes = {MIN, MIN + 1, -65536, -33, -32, -31, -2, -1};
        for (int index : indexes) {
            due("output(" + index + ")", f.output(index), 0);
        }
    }

    private void indexTooLarge() {
        int[] counts = {0, 1, 31, 32};
        for (int count : counts) {
            FortranStatic f = printing(32);
            f.run(count == 0 ? 1 : count);
            FortranStatic g = count == 0 ? printing(0) : f;
            if (count == 0) {
                g.run(100);
            }
            due("outputs", g.query(OUTPUTS, 0, 0), count);
            int[] indexes = {count, count + 1, 32, 33, 64, 65536, MAX - 1, MAX};
            for (int index : indexes) {
                due("output(" + index + ") of " + count, g.output(index), 0);
            }
        }
        // What a longer run before has printed there is not shown.
        FortranStatic f = printing(32);
        f.run(100);
        f.run(3);
        for (int index = 3; index <= 33; index++) {
            due("output(" + index + ") of 3", f.output(index), 0);
        }
    }

    private void outputBeforeRun() {
        FortranStatic f = fresh();
        due("nothing entered", f.output(0), 0);
        add(f, 0, 0, PRINT, 0, 7);
        due("not compiled", f.output(0), 0);
        due("refused", f.run(100), FortranStatic.RUN_REFUSED);
        due("after a refused run", f.output(0), 0);
        compiles("then", f, OK);
        due("compiled", f.output(0), 0);
        f.run(100);
        due("after a run", f.output(0), 7);
    }

    private void outputChangesNothing() {
        FortranStatic f = printing(3);
        f.run(100);
        String shown = everythingShown(f);
        for (int index : ODD) {
            f.output(index);
            f.output(index);
        }
        unchanged("output()", f, shown);
        due("run again", f.run(100), DONE);
        unchanged("the next run", f, shown);
    }

    private void values() {
        FortranStatic f = fresh();
        for (int unit = 0; unit <= 3; unit++) {
            f.dimension(unit, 0, 16);
            f.dimension(unit, 7, 16);
            int[] codes = {fixed(0, 1), fixed(0, 16), fixed(7, 1), fixed(7, 16)};
            for (int i = 0; i < 4; i++) {
                add(f, unit, 0, ASSIGN, SUB, codes[i], 10 * unit, i + 50);
            }
            if (unit < 3) {
                add(f, unit, 0, CALL, unit + 1);
            }
        }
        runs("four units", f, 100, DONE, 19);
        for (int unit = 0; unit <= 3; unit++) {
            int[] codes = {fixed(0, 1), fixed(0, 16), fixed(7, 1), fixed(7, 16)};
            for (int i = 0; i < 4; i++) {
                due("unit " + unit + ", code " + codes[i], f.value(unit, codes[i]), 10 * unit - i - 50);
            }
            due("a cell between", f.value(unit, fixed(0, 2)), 0);
        }
        // When the last run ended, in whatever way.
        for (int limit = 1; limit <= 4; limit++) {
            due("cut off", f.run(limit), STEPS);
            due("the last cell written", f.value(0, new int[] {fixed(0, 1), fixed(0, 16), fixed(7, 1), fixed(7, 16)}[limit - 1]), -49 - limit);
            due("the cell after", f.value(0, fixed(7, 16)), limit == 4 ? -53 : 0);
        }
        FortranStatic g = fresh();
        add(g, 0, 0, ASSIGN, ADD, fixed(0, 1), 8, 0);
        add(g, 0, 0, ASSIGN, DIV, fixed(0, 1), 8, 0);
        runs("an error", g, 100, FortranStatic.RUN_DIVZERO, 2);
        due("after an error", g.value(0, fixed(0, 1)), 8);
    }

    /** Every element i of every name n of unit 0 gets 100n + i, by a loop for each name. */
    private FortranStatic filled() {
        FortranStatic f = fresh();
        for (int name = 0; name <= 6; name++) {
            f.dimension(0, name, 2 + name * 2);
            add(f, 0, 0, DO, 0, 10 + name, fixed(7, 1), 1, 2 + name * 2, 1);
            add(f, 0, 10 + name, ASSIGN, ADD, indexed(name, 7), 100 * name, fixed(7, 1));
        }
        compiles("filled", f, OK);
        due("filled: run", f.run(1000), DONE);
        return f;
    }

    private void valueOfElementZero() {
        FortranStatic f = filled();
        for (int name = 0; name <= 6; name++) {
            due("element 0 of name " + name, f.value(0, fixed(name, 0)), 100 * name + 1);
            due("element 1 of name " + name, f.value(0, fixed(name, 1)), 100 * name + 1);
        }
    }

    private void valueBeforeRun() {
        FortranStatic f = fresh();
        due("nothing entered", f.value(0, fixed(0, 1)), 0);
        add(f, 0, 0, ASSIGN, ADD, fixed(0, 1), 7, 0);
        due("not compiled", f.value(0, fixed(0, 1)), 0);
        f.run(100);
        due("after a refused run", f.value(0, fixed(0, 1)), 0);
        compiles("then", f, OK);
        due("compiled", f.value(0, fixed(0, 1)), 0);
        f.run(100);
        due("after a run", f.value(0, fixed(0, 1)), 7);
        for (int answer = 2; answer <= 8; answer++) {
            FortranStatic g = answering(answer);
            g.compile();
            g.run(100);
            due("after answer " + answer, g.value(0, fixed(5, 1)), 0);
        }
    }

    private void valueOfOtherCodes() {
        FortranStatic f = fresh();
        for (int name = 0; name <= 7; name++) {
            f.dimension(0, name, 16);
        }
        f.dimension(0, 7, 1);
        for (int name = 0; name <= 6; name++) {
            add(f, 0, 0, DO, 0, 10 + name, fixed(7, 1), 1, 16, 1);
            add(f, 0, 10 + name, ASSIGN, ADD, indexed(name, 7), 3, 0);
        }
        add(f, 0, 0, ASSIGN, ADD, fixed(7, 1), 2, 0);
        runs("no cell is 0", f, 1000, DONE, 7 * 17 + 1);
        int[] codes = {MIN, -10001, -10000, -1, 0, 1, 100, 700, 9999, 10017, 10099, 10617, 10717, 10800, 10801, 11001, 19999, 20000, 20007,
            20100, 20707, 30001, 65536 + 10001, 110001, MAX};
        for (int code : codes) {
            due("value of code " + code, f.value(0, code), 0);
        }
        due("a fixed code", f.value(0, fixed(6, 16)), 3);
    }

    private void valueOfDummy() {
        for (int count = 1; count <= 3; count++) {
            FortranStatic f = fresh();
            f.parameters(2, count);
            f.statement(0, 0, CALL, 2 + 4 * count);
            for (int i = 0; i < count; i++) {
                f.operand(fixed(4 + i, 1));
            }
            for (int name = 0; name <= 3; name++) {
                add(f, 2, 0, ASSIGN, ADD, fixed(name, 1), 60, name);
            }
            add(f, 2, 0, STOP, 0);
            runs("stopped while the dummies are bound", f, 100, DONE, 6);
            for (int name = 0; name <= 3; name++) {
                due("name " + name + " of " + count, f.value(2, fixed(name, 1)), name < count ? 0 : 60 + name);
                due("name " + name + " of " + count + ", element 0", f.value(2, fixed(name, 0)), name < count ? 0 : 60 + name);
                due("what was passed", f.value(0, fixed(4 + name % 3, 1)), name % 3 < count ? 60 + name % 3 : 0);
            }
        }
    }

    private void valuePastTheEnd() {
        FortranStatic f = filled();
        for (int name = 0; name <= 6; name++) {
            int last = 2 + name * 2;
            for (int i = 1; i <= 16; i++) {
                due("element " + i + " of " + last, f.value(0, fixed(name, i)), i <= last ? 100 * name + i : 0);
            }
        }
        // What lies behind the end of one name may be a cell of another: it is not shown.
        for (int shorter = 1; shorter <= 3; shorter += 2) {
            FortranStatic g = fresh();
            g.dimension(0, shorter, 2);
            g.dimension(0, 2, 4);
            g.equivalence(0, fixed(shorter, 1), fixed(2, 1));
            add(g, 0, 0, ASSIGN, ADD, fixed(2, 3), 9, 0);
            runs("a longer name at the same place", g, 10, DONE, 1);
            due("element 3 of 2", g.value(0, fixed(shorter, 3)), 0);
            due("element 3 of 4", g.value(0, fixed(2, 3)), 9);
        }
    }

    private void commonContent() {
        FortranStatic f = fresh();
        f.dimension(0, 1, 4);
        f.dimension(0, 2, 4);
        f.dimension(3, 5, 16);
        f.common(0, 1, 1);
        f.common(3, 1, 5);
        f.equivalence(0, fixed(1, 4), fixed(2, 1));
        f.equivalence(0, fixed(2, 4), fixed(3, 1));
        f.parameters(2, 1);
        add(f, 0, 0, ASSIGN, ADD, fixed(1, 1), 11, 0);
        add(f, 0, 0, ASSIGN, ADD, fixed(2, 1), 14, 0);
        add(f, 0, 0, CALL, 2 + 4, fixed(3, 1));
        add(f, 0, 0, CALL, 3);
        add(f, 2, 0, ASSIGN, ADD, fixed(0, 1), 17, 0);
        add(f, 3, 0, ASSIGN, ADD, fixed(5, 5), 15, 0);
        runs("by COMMON, EQUIVALENCE and argument", f, 100, DONE, 6);
        due("first", f.value(3, fixed(5, 1)), 11);
        due("fourth, by the block", f.value(3, fixed(5, 4)), 14);
        due("fourth, by name 1", f.value(0, fixed(1, 4)), 14);
        due("fifth, by name 2", f.value(0, fixed(2, 2)), 15);
        due("seventh, by the block", f.value(3, fixed(5, 7)), 17);
        due("seventh, by name 2", f.value(0, fixed(2, 4)), 17);
        due("seventh, by name 3", f.value(0, fixed(3, 1)), 17);
        due("eighth", f.value(3, fixed(5, 8)), 0);
    }

    private void valueChangesNothing() {
        FortranStatic f = filled();
        String shown = everythingShown(f);
        for (int unit : ODD) {
            for (int code = 9990; code < 10900; code += 7) {
                f.value(unit, code);
            }
        }
        unchanged("value()", f, shown);
        due("run again", f.run(1000), DONE);
        unchanged("the next run", f, shown);
    }

    private void valueOfNoUnit() {
        FortranStatic f = fresh();
        for (int unit = 0; unit <= 3; unit++) {
            for (int name = 0; name <= 7; name++) {
                add(f, unit, 0, ASSIGN, ADD, fixed(name, 1), 5, 0);
            }
            if (unit < 3) {
                add(f, unit, 0, CALL, unit + 1);
            }
        }
        runs("no first cell is 0", f, 100, DONE, 35);
        for (int unit : NO_UNIT) {
            for (int name = 0; name <= 7; name++) {
                due("unit " + unit, f.value(unit, fixed(name, 1)), 0);
            }
        }
        for (int unit = 0; unit <= 3; unit++) {
            due("unit " + unit, f.value(unit, fixed(7, 1)), 5);
        }
    }

    private void aliasesOfFixed() {
        FortranStatic f = fresh();
        compiles("nothing", f, OK);
        int[] codes = {MIN, -1, 0, 1, 9999, 10017, 10717, 10800, 11000, 19999, 20000, 20001, 20707, 30000, MAX};
        for (int unit = 0; unit <= 3; unit++) {
            for (int code : codes) {
                due("a and b are " + code, f.aliased(unit, code, unit, code), false);
                due("a is " + code, f.aliased(unit, code, unit, fixed(0, 1)), false);
                due("b is " + code, f.aliased(unit, fixed(0, 1), unit, code), false);
            }
            for (int name = 0; name <= 7; name++) {
                due("a cell and itself", f.aliased(unit, fixed(name, 1), unit, fixed(name, 1)), true);
                due("a cell and that of another unit", f.aliased(unit, fixed(name, 1), (unit + 1) % 4, fixed(name, 1)), false);
            }
        }
    }

    private void aliasesOfStored() {
        for (int count = 0; count <= 3; count++) {
            FortranStatic f = fresh();
            f.parameters(1, count);
            compiles("with " + count, f, OK);
            for (int name = 0; name <= 7; name++) {
                due("name " + name + " and itself", f.aliased(1, fixed(name, 1), 1, fixed(name, 1)), name >= count);
                due("name " + name + " and itself, by 0", f.aliased(1, fixed(name, 0), 1, fixed(name, 1)), name >= count);
                due("the name of unit 0", f.aliased(0, fixed(name, 1), 0, fixed(name, 1)), true);
            }
        }
        FortranStatic f = fresh();
        f.parameters(1, 1);
        add(f, 0, 0, CALL, 1 + 4, fixed(3, 1));
        add(f, 1, 0, STOP, 0);
        runs("stopped while a dummy is bound", f, 10, DONE, 2);
        due("a dummy first", f.aliased(1, fixed(0, 1), 0, fixed(3, 1)), false);
        due("a dummy second", f.aliased(0, fixed(3, 1), 1, fixed(0, 1)), false);
    }

    private void aliasesWithinLength() {
        FortranStatic f = fresh();
        f.dimension(0, 1, 3);
        f.dimension(0, 2, 16);
        f.equivalence(0, fixed(1, 1), fixed(2, 1));
        compiles("a short and a long name", f, OK);
        for (int i = 1; i <= 16; i++) {
            due("element " + i + " of 3 first", f.aliased(0, fixed(1, i), 0, fixed(2, i)), i <= 3);
            due("element " + i + " of 3 second", f.aliased(0, fixed(2, i), 0, fixed(1, i)), i <= 3);
            due("element " + i + " of 3 twice", f.aliased(0, fixed(1, i), 0, fixed(1, i)), i <= 3);
            due("element " + i + " of 16 twice", f.aliased(0, fixed(2, i), 0, fixed(2, i)), true);
            due("element " + i + " of 1 twice", f.aliased(0, fixed(3, i), 0, fixed(3, i)), i == 1);
        }
    }

    private void aliasesOfElementZero() {
        FortranStatic f = fresh();
        f.dimension(0, 1, 3);
        f.dimension(0, 2, 3);
        f.equivalence(0, fixed(1, 2), fixed(2, 1));
        compiles("two names", f, OK);
        for (int i = 1; i <= 3; i++) {
            due("element 0 first, " + i, f.aliased(0, fixed(2, 0), 0, fixed(1, i)), i == 2);
            due("element 0 second, " + i, f.aliased(0, fixed(1, i), 0, fixed(2, 0)), i == 2);
            due("elements 0 and " + i + " of one name", f.aliased(0, fixed(1, 0), 0, fixed(1, i)), i == 1);
        }
        due("elements 0 and 0", f.aliased(0, fixed(1, 0), 0, fixed(1, 0)), true);
    }

    private void aliasesOfSameCells() {
        FortranStatic f = fresh();
        f.dimension(0, 0, 4);
        f.dimension(2, 7, 4);
        f.common(0, 3, 1);
        f.common(0, 3, 0);
        f.common(2, 3, 7);
        compiles("one block", f, OK);
        for (int i = 1; i <= 4; i++) {
            for (int j = 1; j <= 4; j++) {
                due("elements " + i + " and " + j, f.aliased(0, fixed(0, i), 2, fixed(7, j)), i + 1 == j);
                due("elements " + j + " and " + i, f.aliased(2, fixed(7, j), 0, fixed(0, i)), i + 1 == j);
                due("elements of one name", f.aliased(0, fixed(0, i), 0, fixed(0, j)), i == j);
            }
        }
        due("the unit counts", f.aliased(1, fixed(7, 2), 0, fixed(0, 1)), false);
    }

    private void aliasesBeforeCompile() {
        FortranStatic f = fresh();
        f.equivalence(0, fixed(1, 1), fixed(2, 1));
        due("before compile()", f.aliased(0, fixed(1, 1), 0, fixed(2, 1)), false);
        due("before compile(), a cell and itself", f.aliased(0, fixed(1, 1), 0, fixed(1, 1)), false);
        f.run(10);
        due("after a refused run", f.aliased(0, fixed(1, 1), 0, fixed(2, 1)), false);
        compiles("then", f, OK);
        due("after compile()", f.aliased(0, fixed(1, 1), 0, fixed(2, 1)), true);
        due("after compile(), a cell and itself", f.aliased(0, fixed(1, 1), 0, fixed(1, 1)), true);
    }

    private void aliasesAfterOtherAnswers() {
        for (int answer = 1; answer <= 8; answer++) {
            FortranStatic f = answering(answer);
            f.equivalence(3, fixed(1, 1), fixed(2, 1));
            compiles("program", f, answer);
            due("after answer " + answer, f.aliased(3, fixed(1, 1), 3, fixed(2, 1)), answer == OK);
            due("after answer " + answer + ", a cell and itself", f.aliased(3, fixed(1, 1), 3, fixed(1, 1)), answer == OK);
        }
    }

    private void aliasesOfNoUnit() {
        FortranStatic f = fresh();
        compiles("nothing", f, OK);
        for (int unit : NO_UNIT) {
            for (int name = 0; name <= 7; name++) {
                due("unit " + unit + " twice", f.aliased(unit, fixed(name, 1), unit, fixed(name, 1)), false);
                for (int other = 0; other <= 3; other++) {
                    due("unit " + unit + " first", f.aliased(unit, fixed(name, 1), other, fixed(name, 1)), false);
                    due("unit " + unit + " second", f.aliased(other, fixed(name, 1), unit, fixed(name, 1)), false);
                }
            }
        }
        for (int unit = 0; unit <= 3; unit++) {
            due("unit " + unit, f.aliased(unit, fixed(7, 1), unit, fixed(7, 1)), true);
        }
    }

    private static String aliasesShown(FortranStatic f) {
        StringBuilder shown = new StringBuilder();
        for (int a = 0; a < 32; a++) {
            for (int b = 0; b < 32; b++) {
                shown.append(f.aliased(a / 8, fixed(a % 8, 1), b / 8, fixed(b % 8, 1)) ? '=' : '.');
            }
        }
        return shown.toString();
    }

    private void aliasesAndRuns() {
        FortranStatic f = fresh();
        f.parameters(1, 2);
        f.common(0, 0, 5);
        f.common(1, 0, 6);
        add(f, 0, 0, CALL, 1 + 8, fixed(5, 1), fixed(6, 1));
        add(f, 1, 0, ASSIGN, ADD, fixed(0, 1), 4, 0);
        add(f, 1, 0, CALL, 2);
        add(f, 2, 0, STOP, 0);
        compiles("program", f, OK);
        String shown = aliasesShown(f);
        due("some are aliased", shown.contains("="), true);
        for (int limit = 1; limit <= 5; limit++) {
            f.run(limit);
            due("aliases after a run of " + limit, aliasesShown(f).equals(shown), true);
        }
        String all = everythingShown(f);
        aliasesShown(f);
        f.aliased(MIN, MIN, MAX, MAX);
        unchanged("aliased()", f, all);
        due("run again", f.run(5), DONE);
        unchanged("the next run", f, all);
    }

    private void queryChangesNothing() {
        FortranStatic f = fresh();
        f.statement(0, 0, ASSIGN, ADD);
        f.operand(fixed(0, 1));
        queryAll(f);
        due("still awaited", pending(f), 2);
        accepted("operand", f.operand(3));
        queryAll(f);
        accepted("operand", f.operand(4));
        queryAll(f);
        add(f, 0, 0, PRINT, 0, fixed(0, 1));
        queryAll(f);
        accepted("still open", f.dimension(1, 1, 2));
        for (int run = 0; run < 2; run++) {
            runs("run " + run, f, 100, DONE, 2);
            // What the getters show is said here, as a picture of it would come from queries too.
            for (int round = 0; round < 2; round++) {
                queryAll(f);
                due("Q_COMPILED", f.query(COMPILED, 0, 0), OK);
                due("Q_RUN", f.query(RUN, 0, 0), DONE);
                due("Q_STEPS", f.query(STEP_COUNT, 0, 0), 2);
                printed("query()", f, 7);
                due("value", f.value(0, fixed(0, 1)), 7);
                due("length", f.query(LENGTH, 1, 1), 2);
                due("statement 0", f.query(STMT, 0, 6), 4);
                due("aliased", f.aliased(0, fixed(0, 1), 0, fixed(0, 0)), true);
            }
        }
    }

    private static void queryAll(FortranStatic f) {
        for (int kind = -1; kind <= 13; kind++) {
            for (int a : ODD) {
                for (int b : ODD) {
                    f.query(kind, a, b);
                }
            }
        }
    }

    /** Something of each sort is there, so that an answer of -1 is not for want of it. */
    private FortranStatic furnished() {
        FortranStatic f = fresh();
        for (int unit = 0; unit <= 3; unit++) {
            for (int i = 0; i < 8; i++) {
                accepted("common", f.common(unit, i / 2, i));
            }
        }
        for (int i = 0; i < 16; i++) {
            accepted("equivalence", f.equivalence(i % 4, fixed(i % 8, 1), fixed(i % 8, 1)));
        }
        for (int i = 0; i < 64; i++) {
            add(f, i % 4, 0, IF, 0, 1, 2, 3, 4, 5);
        }
        return f;
    }

    private void outOfRange() {
        FortranStatic f = furnished();
        int[] kinds = {MIN, -1, 0, 12, 13, 65536 + 1, MAX};
        for (int kind : kinds) {
            due("kind " + kind, f.query(kind, 0, 0), -1);
        }
        for (int unit : NO_UNIT) {
            due("Q_LENGTH of unit " + unit, f.query(LENGTH, unit, 0), -1);
            due("Q_PARAMS of unit " + unit, f.query(PARAMS, unit, 0), -1);
            due("Q_COMMON of unit " + unit, f.query(COMMON, unit, 0), -1);
        }
        int[] names = {MIN, -1, 8, 9, MAX};
        for (int name : names) {
            due("Q_LENGTH of name " + name, f.query(LENGTH, 0, name), -1);
            due("Q_LENGTH of name " + name, f.query(LENGTH, 3, name), -1);
        }
        FortranStatic g = fresh();
        compiles("nothing", g, OK);
        int[] blocks = {MIN, -1, 4, 5, MAX};
        for (int block : blocks) {
            due("Q_EXTENT of block " + block, g.query(EXTENT, block, 0), -1);
        }
    }

    private void ignored() {
        FortranStatic f = fresh();
        f.parameters(2, 3);
        f.common(0, 1, 0);
        add(f, 0, 0, PRINT, 0, 6);
        f.statement(0, 0, IF, 0);
        for (int odd : ODD) {
            for (int other : ODD) {
                due("Q_PENDING", f.query(PENDING, odd, other), 5);
                due("Q_COMPILED", f.query(COMPILED, odd, other), 0);
            }
            due("Q_PARAMS", f.query(PARAMS, 2, odd), 3);
        }
        FortranStatic g = fresh();
        g.common(0, 1, 0);
        add(g, 0, 0, PRINT, 0, 6);
        add(g, 0, 0, CONTINUE, 0);
        runs("then", g, 100, DONE, 2);
        for (int odd : ODD) {
            for (int other : ODD) {
                due("Q_COMPILED", g.query(COMPILED, odd, other), OK);
                due("Q_RUN", g.query(RUN, odd, other), DONE);
                due("Q_STEPS", g.query(STEP_COUNT, odd, other), 2);
                due("Q_OUTPUTS", g.query(OUTPUTS, odd, other), 1);
            }
            due("Q_EXTENT", g.query(EXTENT, 1, odd), 1);
        }
    }

    private void indexes() {
        for (int count = 0; count <= 8; count++) {
            FortranStatic f = fresh();
            for (int i = 0; i < count; i++) {
                accepted("common", f.common(1, i / 2, i));
                accepted("equivalence", f.equivalence(2, fixed(i, 1), fixed(i, 0)));
                accepted("statement", f.statement(3, 0, CONTINUE, 0));
            }
            for (int index = -2; index <= 70; index++) {
                boolean inside = index >= 0 && index < count;
                due("Q_COMMON " + index + " of " + count, f.query(COMMON, 1, index), inside ? 8 * (index / 2) + index : -1);
                due("Q_COMMON of another unit", f.query(COMMON, 2, index), -1);
                due("Q_EQUIV " + index + " of " + count, f.query(EQUIV, index, 0), inside ? 2 : -1);
                due("Q_STMT " + index + " of " + count, f.query(STMT, index, 0), inside ? 3 : -1);
            }
        }
        FortranStatic full = furnished();
        int[] beyond = {MIN, -1, 64, 65, MAX};
        for (int index : beyond) {
            due("Q_COMMON " + index, full.query(COMMON, 3, index), -1);
            due("Q_EQUIV " + index, full.query(EQUIV, index, 0), -1);
            due("Q_STMT " + index, full.query(STMT, index, 0), -1);
        }
        due("Q_COMMON 7", full.query(COMMON, 3, 7), 31);
        due("Q_COMMON 8", full.query(COMMON, 2, 8), -1);
        due("Q_EQUIV 15", full.query(EQUIV, 15, 0), 3);
        due("Q_EQUIV 16", full.query(EQUIV, 16, 0), -1);
        due("Q_STMT 63", full.query(STMT, 63, 0), 3);
    }

    private void fields() {
        FortranStatic f = furnished();
        int[] fields = {MIN, -2, -1, 0, 1, 2, 3, 4, 5, 6, 7, 8, 9, 10, 13, MAX};
        for (int field : fields) {
            for (int index = 0; index < 16; index++) {
                due("Q_EQUIV " + index + " field " + field, f.query(EQUIV, index, field) == -1, field < 0 || field > 2);
            }
            for (int index = 0; index < 64; index++) {
                due("Q_STMT " + index + " field " + field, f.query(STMT, index, field) == -1, field < 0 || field > 8);
            }
        }
    }

    private void queryLength() {
        FortranStatic f = fresh();
        for (int slot = 0; slot < 32; slot++) {
            due("default", f.query(LENGTH, slot / 8, slot % 8), 1);
            accepted("dimension", f.dimension(slot / 8, slot % 8, slot % 16 + 1));
        }
        f.dimension(0, 0, 17);
        // As set: also for a dummy, before and after compile().
        f.parameters(2, 3);
        for (int round = 0; round < 2; round++) {
            for (int slot = 0; slot < 32; slot++) {
                due("as set", f.query(LENGTH, slot / 8, slot % 8), slot % 16 + 1);
            }
            f.compile();
        }
    }

    private void queryParams() {
        FortranStatic f = fresh();
        for (int unit = 1; unit <= 3; unit++) {
            accepted("parameters", f.parameters(unit, 4 - unit));
        }
        for (int round = 0; round < 2; round++) {
            due("p(0)", f.query(PARAMS, 0, 0), 0);
            for (int unit = 1; unit <= 3; unit++) {
                due("p(" + unit + ")", f.query(PARAMS, unit, 0), 4 - unit);
            }
            f.compile();
        }
        due("unit 4", f.query(PARAMS, 4, 0), -1);
        due("unit -1", f.query(PARAMS, -1, 0), -1);
    }

    private void queryCommon() {
        FortranStatic f = fresh();
        int[] blocks = {0, 0, 3, 3, 1, 2, 0, 3};
        int[] names = {0, 7, 0, 7, 5, 6, 0, 7};
        for (int i = 0; i < 8; i++) {
            for (int unit = 3; unit >= 0; unit--) {
                accepted("common", f.common(unit, blocks[(i + unit) % 8], names[(i + unit) % 8]));
            }
        }
        for (int unit = 0; unit <= 3; unit++) {
            for (int i = 0; i < 8; i++) {
                due("entry " + i + " of unit " + unit, f.query(COMMON, unit, i), 8 * blocks[(i + unit) % 8] + names[(i + unit) % 8]);
            }
        }
    }

    private void queryEquiv() {
        FortranStatic f = fresh();
        for (int i = 0; i < 16; i++) {
            accepted("equivalence", f.equivalence(i / 4, fixed(i / 2, i), fixed(7 - i / 2, 16 - i)));
            due("unit", f.query(EQUIV, i, 0), i / 4);
        }
        for (int i = 0; i < 16; i++) {
            due("unit of " + i, f.query(EQUIV, i, 0), i / 4);
            due("code a of " + i, f.query(EQUIV, i, 1), fixed(i / 2, i));
            due("code b of " + i, f.query(EQUIV, i, 2), fixed(7 - i / 2, 16 - i));
        }
    }

    private void queryStmt() {
        FortranStatic f = fresh();
        int[][] kept = {
            {3, 99, ASSIGN, DIV, 10716, 9999, 20707},
            {0, 0, IF, 0, 0, 10000, 1, 99, 9999},
            {1, 1, GOTO, 4, 20000, 0, 1, 2, 3},
            {2, 50, DO, 0, 7, 10100, 1, 2, 3},
            {3, 98, CALL, 15, 10300, 10400, 20500},
            {0, 2, PRINT, 0, 10016},
            {1, 3, CONTINUE, 0},
            {2, 4, RETURN, 0},
            {3, 5, STOP, 0},
            {0, 6, CALL, 1},
            {0, 7, GOTO, 1, 4, 5},
        };
        for (int[] s : kept) {
            add(f, s[0], s[1], s[2], s[3], java.util.Arrays.copyOfRange(s, 4, s.length));
        }
        for (int round = 0; round < 2; round++) {
            for (int index = 0; index < kept.length; index++) {
                for (int field = 0; field <= 8; field++) {
                    int want = field < kept[index].length ? kept[index][field] : -1;
                    due("statement " + index + ", field " + field, f.query(STMT, index, field), want);
                }
            }
            f.compile();
        }
    }

    private void missingOperands() {
        int[][] kinds = {{ASSIGN, 0, 3}, {IF, 0, 5}, {GOTO, 1, 2}, {GOTO, 4, 5}, {DO, 0, 5}, {CALL, 1, 0}, {CALL, 13, 3}, {PRINT, 0, 1}, {STOP, 0, 0}};
        for (int[] kind : kinds) {
            FortranStatic f = fresh();
            // The places of the statement before are full: they must not show in this one's.
            add(f, 0, 0, IF, 0, 81, 82, 83, 84, 85);
            accepted("statement", f.statement(0, 0, kind[0], kind[1]));
            for (int given = 0; given <= kind[2]; given++) {
                for (int place = 0; place < 5; place++) {
                    boolean there = f.query(STMT, 1, 4 + place) != -1;
                    due("place " + place + " of kind " + kind[0] + " with " + given, there, place < given);
                }
                f.operand(-1);
                accepted("operand", given == kind[2] || f.operand(1) || f.operand(fixed(0, 1)));
            }
        }
    }

    private void queryPending() {
        int[][] kinds = {{ASSIGN, 0, 3}, {IF, 0, 5}, {GOTO, 1, 2}, {GOTO, 2, 3}, {GOTO, 3, 4}, {GOTO, 4, 5}, {DO, 0, 5}, {CALL, 1, 0},
            {CALL, 5, 1}, {CALL, 9, 2}, {CALL, 13, 3}, {PRINT, 0, 1}, {CONTINUE, 0, 0}, {RETURN, 0, 0}, {STOP, 0, 0}};
        FortranStatic f = fresh();
        due("no statement", f.query(PENDING, 0, 0), 0);
        for (int[] kind : kinds) {
            accepted("statement", f.statement(0, 0, kind[0], kind[1]));
            for (int left = kind[2]; left > 0; left--) {
                due("kind " + kind[0], f.query(PENDING, 0, 0), left);
                f.operand(-1);
                f.statement(0, 0, STOP, 0);
                due("kind " + kind[0] + ", after refusals", f.query(PENDING, 0, 0), left);
                accepted("operand", f.operand(1) || f.operand(fixed(0, 1)));
            }
            due("kind " + kind[0] + " complete", f.query(PENDING, 0, 0), 0);
        }
        // compile() freezes what is awaited.
        FortranStatic g = fresh();
        g.statement(0, 0, DO, 0);
        g.compile();
        g.operand(1);
        due("after compile()", g.query(PENDING, 0, 0), 5);
    }

    private void queryCompiled() {
        for (int answer = 1; answer <= 8; answer++) {
            FortranStatic f = answering(answer);
            due("before compile()", f.query(COMPILED, 0, 0), 0);
            f.run(10);
            due("after a refused run", f.query(COMPILED, 0, 0), 0);
            f.compile();
            due("after compile()", f.query(COMPILED, 0, 0), answer);
            f.run(10);
            f.compile();
            due("later", f.query(COMPILED, 0, 0), answer);
        }
    }

    private void queryExtent() {
        for (int answer = 1; answer <= 8; answer++) {
            FortranStatic f = answering(answer);
            for (int block = 0; block <= 3; block++) {
                due("before compile()", f.query(EXTENT, block, 0), -1);
            }
            compiles("program", f, answer);
            for (int block = 0; block <= 3; block++) {
                due("block " + block + " after answer " + answer, f.query(EXTENT, block, 0), answer != OK ? -1 : block == 1 ? 4 : 0);
            }
            due("block 4", f.query(EXTENT, 4, 0), -1);
            due("block -1", f.query(EXTENT, -1, 0), -1);
        }
    }

    private void queryRun() {
        FortranStatic f = new FortranStatic(8, 4);
        add(f, 0, 1, PRINT, 0, 1);
        add(f, 0, 0, GOTO, 1, 1, 1);
        due("before", f.query(RUN, 0, 0), 0);
        f.run(10);
        due("after a refused run", f.query(RUN, 0, 0), 0);
        f.compile();
        due("after compile()", f.query(RUN, 0, 0), 0);
        f.run(8);
        due("after a run cut off", f.query(RUN, 0, 0), STEPS);
        f.run(9);
        due("after a run that filled the output", f.query(RUN, 0, 0), FortranStatic.RUN_OUTPUT_FULL);
        f.run(3);
        due("after a run cut off again", f.query(RUN, 0, 0), STEPS);
        for (int answer = 2; answer <= 8; answer++) {
            FortranStatic g = answering(answer);
            g.compile();
            g.run(10);
            due("after a run refused for answer " + answer, g.query(RUN, 0, 0), 0);
        }
    }

    private void querySteps() {
        FortranStatic f = fresh();
        add(f, 0, 1, CONTINUE, 0);
        add(f, 0, 0, GOTO, 1, 1, 1);
        due("before", f.query(STEP_COUNT, 0, 0), 0);
        f.run(10);
        due("after a refused run", f.query(STEP_COUNT, 0, 0), 0);
        f.compile();
        due("after compile()", f.query(STEP_COUNT, 0, 0), 0);
        int[] limits = {0, 1, 2, 5000, 5001, 3};
        for (int limit : limits) {
            f.run(limit);
            due("after run(" + limit + ")", f.query(STEP_COUNT, 0, 0), Math.max(1, Math.min(5000, limit)));
        }
        FortranStatic g = fresh();
        g.compile();
        g.run(10);
        due("a run without a statement", g.query(STEP_COUNT, 0, 0), 0);
    }

    private void queryOutputs() {
        FortranStatic f = printing(32);
        due("before", f.query(OUTPUTS, 0, 0), 0);
        int[] limits = {1, 31, 32, 5000, 2};
        for (int limit : limits) {
            f.run(limit);
            due("after run(" + limit + ")", f.query(OUTPUTS, 0, 0), Math.min(32, limit));
        }
        FortranStatic g = fresh();
        add(g, 0, 0, PRINT, 0, 1);
        g.run(10);
        due("after a refused run", g.query(OUTPUTS, 0, 0), 0);
        FortranStatic h = printing(0);
        h.run(10);
        due("a run that prints nothing", h.query(OUTPUTS, 0, 0), 0);
    }

    private void extentIsTheGreatestPosition() {
        // Each name of a chain from the block may be the one that reaches farthest, by its place or its length.
        for (int longest = 0; longest <= 3; longest++) {
            FortranStatic f = fresh();
            for (int name = 0; name <= 3; name++) {
                f.dimension(2, name, name == longest ? 16 : 4);
            }
            f.common(2, 0, 0);
            f.equivalence(2, fixed(0, 4), fixed(1, 2));
            f.equivalence(2, fixed(1, 3), fixed(2, 4));
            f.equivalence(2, fixed(2, 3), fixed(3, 1));
            // Starts in the block: 0, 2, 1 and 3.
            int[] starts = {0, 2, 1, 3};
            compiles("the longest is name " + longest, f, OK);
            due("extent", extent(f, 0), starts[longest] + 16);
        }
        // A name that nothing ties to the block, and an entry of another block, do not count.
        FortranStatic f = fresh();
        f.dimension(1, 0, 16);
        f.dimension(1, 1, 16);
        f.common(1, 3, 1);
        f.common(1, 2, 2);
        f.dimension(1, 2, 3);
        compiles("others", f, OK);
        due("extent of 2", extent(f, 2), 3);
        due("extent of 3", extent(f, 3), 16);
    }

    private void extentOfNothing() {
        FortranStatic f = fresh();
        for (int unit = 0; unit <= 3; unit++) {
            for (int name = 0; name <= 7; name++) {
                f.dimension(unit, name, 16);
            }
        }
        f.equivalence(0, fixed(0, 16), fixed(1, 1));
        f.common(3, 2, 7);
        compiles("long names, one block", f, OK);
        for (int block = 0; block <= 3; block++) {
            due("extent of block " + block, extent(f, block), block == 2 ? 16 : 0);
        }
    }
}
