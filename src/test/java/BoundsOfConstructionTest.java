/** Sentences of promise 1 that name a boundary case. */
public final class BoundsOfConstructionTest extends Bounds {
    public static void main(String[] args) {
        new BoundsOfConstructionTest().look(args);
    }

    @Override
    void sentences() {
        holds("1.1", "clamps statementCapacity into 8..64", this::statementCapacity);
        holds("1.2", "and outputCapacity into 4..32", this::outputCapacity);
        holds("1.3", "a value below the least becomes the least", this::belowTheLeast);
        holds("1.4", "above the greatest becomes the greatest.", this::aboveTheGreatest);
        holds("1.5", "Any int is accepted.", this::anyInt);
        holds("1.6", "At the start the program is empty: every name of every unit has length 1", this::lengthsAreOne);
        holds("1.7", "every p(u) is 0", this::noParameters);
        holds("1.8", "every COMMON list is empty", this::noEntries);
        holds("1.9", "no equivalence is recorded", this::noEquivalences);
        holds("1.10", "no statement exists.", this::noStatements);
        holds("1.11", "compile() has not been called", this::notCompiled);
        holds("1.12", "and no run has been made", this::notRun);
        holds("1.13", "so Q_COMPILED, Q_RUN, Q_STEPS, Q_OUTPUTS and Q_PENDING answer 0", this::queriesAnswerZero);
        holds("1.14", "output() and value() answer 0", this::nothingToShow);
        holds("1.15", "and aliased() answers false.", this::nothingAliased);
    }

    private static int statementsThatFit(int capacity) {
        FortranStatic f = new FortranStatic(capacity, 4);
        int count = 0;
        while (count < 100 && f.statement(count % 4, 0, CONTINUE, 0)) {
            count++;
        }
        return count;
    }

    private int outputsThatFit(int capacity) {
        FortranStatic f = new FortranStatic(8, capacity);
        add(f, 0, 1, PRINT, 0, 6);
        add(f, 0, 0, GOTO, 1, 1, 1);
        f.compile();
        due("output capacity " + capacity + ": run", f.run(5000), FortranStatic.RUN_OUTPUT_FULL);
        return f.query(FortranStatic.Q_OUTPUTS, 0, 0);
    }

    private void statementCapacity() {
        for (int capacity = 8; capacity <= 64; capacity++) {
            due("statements for " + capacity, statementsThatFit(capacity), capacity);
        }
    }

    private void outputCapacity() {
        for (int capacity = 4; capacity <= 32; capacity++) {
            due("outputs for " + capacity, outputsThatFit(capacity), capacity);
        }
    }

    private void belowTheLeast() {
        for (int capacity = -70; capacity < 8; capacity++) {
            due("statements for " + capacity, statementsThatFit(capacity), 8);
        }
        for (int capacity = -40; capacity < 4; capacity++) {
            due("outputs for " + capacity, outputsThatFit(capacity), 4);
        }
    }

    private void aboveTheGreatest() {
        for (int capacity = 65; capacity < 140; capacity++) {
            due("statements for " + capacity, statementsThatFit(capacity), 64);
        }
        for (int capacity = 33; capacity < 80; capacity++) {
            due("outputs for " + capacity, outputsThatFit(capacity), 32);
        }
    }

    private void anyInt() {
        int[] ints = {MIN, MIN + 1, -65536, -1, 0, 65536, 65536 + 10, MAX - 1, MAX};
        for (int given : ints) {
            due("statements for " + given, statementsThatFit(given), given < 8 ? 8 : 64);
            due("outputs for " + given, outputsThatFit(given), given < 4 ? 4 : 32);
        }
    }

    private void lengthsAreOne() {
        FortranStatic f = fresh();
        for (int unit = 0; unit <= 3; unit++) {
            for (int name = 0; name <= 7; name++) {
                due("length of name " + name + " of unit " + unit, length(f, unit, name), 1);
            }
        }
    }

    private void noParameters() {
        FortranStatic f = fresh();
        for (int unit = 0; unit <= 3; unit++) {
            due("p(" + unit + ")", params(f, unit), 0);
        }
    }

    private void noEntries() {
        FortranStatic f = fresh();
        for (int unit = 0; unit <= 3; unit++) {
            due("first entry of unit " + unit, f.query(FortranStatic.Q_COMMON, unit, 0), -1);
        }
        compiles("the empty program", f, OK);
        for (int block = 0; block <= 3; block++) {
            due("extent of block " + block, extent(f, block), 0);
        }
    }

    private void noEquivalences() {
        FortranStatic f = fresh();
        for (int field = 0; field <= 2; field++) {
            due("first equivalence, field " + field, f.query(FortranStatic.Q_EQUIV, 0, field), -1);
        }
        for (int i = 0; i < 16; i++) {
            accepted("equivalence " + i, f.equivalence(0, fixed(0, 1), fixed(1, 1)));
        }
    }

    private void noStatements() {
        FortranStatic f = fresh();
        for (int field = 0; field <= 8; field++) {
            due("first statement, field " + field, f.query(FortranStatic.Q_STMT, 0, field), -1);
        }
        refused("an operand for no statement", f, () -> f.operand(1));
        runs("the empty program", f, 10, DONE, 0);
    }

    private void notCompiled() {
        FortranStatic f = fresh();
        due("run", f.run(10), FortranStatic.RUN_REFUSED);
        accepted("dimension", f.dimension(0, 0, 1));
        accepted("parameters", f.parameters(1, 0));
        accepted("common", f.common(0, 0, 0));
        accepted("equivalence", f.equivalence(0, fixed(0, 1), fixed(1, 1)));
        add(f, 0, 0, PRINT, 0, 1);
        due("extent", extent(f, 0), -1);
    }

    private void notRun() {
        FortranStatic f = fresh();
        add(f, 0, 0, ASSIGN, ADD, fixed(0, 1), 5, 0);
        add(f, 0, 0, PRINT, 0, 5);
        compiles("before a run", f, OK);
        due("Q_RUN", f.query(FortranStatic.Q_RUN, 0, 0), 0);
        due("output(0)", f.output(0), 0);
        due("value", f.value(0, fixed(0, 1)), 0);
    }

    private void queriesAnswerZero() {
        FortranStatic f = fresh();
        int[] kinds = {FortranStatic.Q_COMPILED, FortranStatic.Q_RUN, FortranStatic.Q_STEPS, FortranStatic.Q_OUTPUTS, FortranStatic.Q_PENDING};
        for (int kind : kinds) {
            due("query of kind " + kind, f.query(kind, 0, 0), 0);
        }
    }

    private void nothingToShow() {
        FortranStatic f = fresh();
        for (int index = -1; index <= 33; index++) {
            due("output(" + index + ")", f.output(index), 0);
        }
        for (int unit = 0; unit <= 3; unit++) {
            for (int name = 0; name <= 7; name++) {
                due("value of name " + name + " of unit " + unit, f.value(unit, fixed(name, 1)), 0);
            }
        }
    }

    private void nothingAliased() {
        FortranStatic f = fresh();
        for (int unit = 0; unit <= 3; unit++) {
            for (int name = 0; name <= 7; name++) {
                due("a cell and itself", f.aliased(unit, fixed(name, 1), unit, fixed(name, 1)), false);
                due("a cell and the first", f.aliased(unit, fixed(name, 1), 0, fixed(0, 1)), false);
            }
        }
    }
}
