/** Promise 1: the capacities are clamped, and a new object holds the empty program. */
public final class ConstructionTest {
    private static final Check check = new Check();

    public static void main(String[] args) {
        statementsFit(Integer.MIN_VALUE, 8);
        statementsFit(-1, 8);
        statementsFit(0, 8);
        statementsFit(7, 8);
        statementsFit(8, 8);
        statementsFit(9, 9);
        statementsFit(63, 63);
        statementsFit(64, 64);
        statementsFit(65, 64);
        statementsFit(Integer.MAX_VALUE, 64);
        outputsFit(Integer.MIN_VALUE, 4);
        outputsFit(0, 4);
        outputsFit(3, 4);
        outputsFit(4, 4);
        outputsFit(5, 5);
        outputsFit(31, 31);
        outputsFit(32, 32);
        outputsFit(33, 32);
        outputsFit(Integer.MAX_VALUE, 32);
        startsEmpty();
        emptyProgramRuns();
        check.end();
    }

    private static void statementsFit(int capacity, int fits) {
        FortranStatic f = new FortranStatic(capacity, 4);
        for (int i = 0; i < fits; i++) {
            check.due("capacity " + capacity + ", statement " + i, f.statement(i % 4, 0, FortranStatic.K_CONTINUE, 0), true);
        }
        check.due("capacity " + capacity + ", one more", f.statement(0, 0, FortranStatic.K_CONTINUE, 0), false);
        check.due("capacity " + capacity + ", the one more is not kept", f.query(FortranStatic.Q_STMT, fits, 0), -1);
        check.due("capacity " + capacity + ", the last is kept", f.query(FortranStatic.Q_STMT, fits - 1, 0), (fits - 1) % 4);
    }

    private static void outputsFit(int capacity, int fits) {
        FortranStatic f = new FortranStatic(8, capacity);
        f.statement(0, 1, FortranStatic.K_PRINT, 0);
        f.operand(5);
        f.statement(0, 0, FortranStatic.K_GOTO, 1);
        f.operand(1);
        f.operand(1);
        f.compile();
        check.due("output capacity " + capacity + ", run", f.run(5000), FortranStatic.RUN_OUTPUT_FULL);
        check.due("output capacity " + capacity + ", outputs", f.query(FortranStatic.Q_OUTPUTS, 0, 0), fits);
        check.due("output capacity " + capacity + ", last", f.output(fits - 1), 5);
        check.due("output capacity " + capacity + ", past the last", f.output(fits), 0);
    }

    private static void startsEmpty() {
        FortranStatic f = new FortranStatic(16, 8);
        for (int unit = 0; unit < 4; unit++) {
            check.due("params of " + unit, f.query(FortranStatic.Q_PARAMS, unit, 0), 0);
            check.due("common of " + unit, f.query(FortranStatic.Q_COMMON, unit, 0), -1);
            for (int name = 0; name < 8; name++) {
                check.due("length of " + unit + "," + name, f.query(FortranStatic.Q_LENGTH, unit, name), 1);
                check.due("value", f.value(unit, 10000 + 100 * name), 0);
                check.due("aliased", f.aliased(unit, 10000 + 100 * name, unit, 10000 + 100 * name), false);
            }
        }
        check.due("equivalence 0", f.query(FortranStatic.Q_EQUIV, 0, 0), -1);
        check.due("statement 0", f.query(FortranStatic.Q_STMT, 0, 0), -1);
        check.due("pending", f.query(FortranStatic.Q_PENDING, 0, 0), 0);
        check.due("compiled", f.query(FortranStatic.Q_COMPILED, 0, 0), 0);
        check.due("extent", f.query(FortranStatic.Q_EXTENT, 0, 0), -1);
        check.due("run", f.query(FortranStatic.Q_RUN, 0, 0), 0);
        check.due("steps", f.query(FortranStatic.Q_STEPS, 0, 0), 0);
        check.due("outputs", f.query(FortranStatic.Q_OUTPUTS, 0, 0), 0);
        check.due("output 0", f.output(0), 0);
        check.due("operand on the empty program", f.operand(1), false);
        check.due("run before compile", f.run(10), FortranStatic.RUN_REFUSED);
    }

    private static void emptyProgramRuns() {
        FortranStatic f = new FortranStatic(16, 8);
        check.due("compile of the empty program", f.compile(), FortranStatic.C_OK);
        check.due("run of the empty program", f.run(1), FortranStatic.RUN_DONE);
        check.due("its steps", f.query(FortranStatic.Q_STEPS, 0, 0), 0);
    }
}
