/** Counts and prints the answers that are not as due; every test closes with end(). */
final class Check {
    private int wrong = 0;

    void due(String call, long got, long want) {
        if (got != want) {
            wrong++;
            System.out.println(call + " answered " + got + ", due is " + want);
        }
    }

    void due(String call, boolean got, boolean want) {
        due(call, got ? 1 : 0, want ? 1 : 0);
    }

    /** Adds a statement with all its operands; each of these calls must be accepted. */
    void add(FortranStatic f, int unit, int label, int kind, int extra, int... codes) {
        due("statement(" + unit + ", " + label + ", " + kind + ", " + extra + ")", f.statement(unit, label, kind, extra), true);
        for (int code : codes) {
            due("operand(" + code + ")", f.operand(code), true);
        }
    }

    /** Compiles, which must answer C_OK, and runs. */
    void runs(String what, FortranStatic f, int maxSteps, int answer, int steps) {
        due(what + ": compile()", f.compile(), FortranStatic.C_OK);
        due(what + ": run(" + maxSteps + ")", f.run(maxSteps), answer);
        due(what + ": Q_RUN", f.query(FortranStatic.Q_RUN, 0, 0), answer);
        due(what + ": Q_STEPS", f.query(FortranStatic.Q_STEPS, 0, 0), steps);
    }

    /** The last run printed just these values. */
    void printed(String what, FortranStatic f, int... values) {
        due(what + ": Q_OUTPUTS", f.query(FortranStatic.Q_OUTPUTS, 0, 0), values.length);
        for (int i = 0; i < values.length; i++) {
            due(what + ": output(" + i + ")", f.output(i), values[i]);
        }
        due(what + ": output past the last", f.output(values.length), 0);
    }

    boolean failed() {
        return wrong != 0;
    }

    void end() {
        if (wrong != 0) {
            System.out.println(wrong + " answers are not as due");
            System.exit(1);
        }
    }
}
