import java.util.function.BooleanSupplier;

/**
 * What the tests of single sentences share. Each sentence of the document that names a boundary case is
 * looked at alone, so that a failure tells which one does not hold; an argument picks one by its number.
 */
abstract class Bounds {
    static final int MIN = Integer.MIN_VALUE;
    static final int MAX = Integer.MAX_VALUE;
    static final int ASSIGN = FortranStatic.K_ASSIGN;
    static final int IF = FortranStatic.K_IF;
    static final int GOTO = FortranStatic.K_GOTO;
    static final int DO = FortranStatic.K_DO;
    static final int CALL = FortranStatic.K_CALL;
    static final int PRINT = FortranStatic.K_PRINT;
    static final int CONTINUE = FortranStatic.K_CONTINUE;
    static final int RETURN = FortranStatic.K_RETURN;
    static final int STOP = FortranStatic.K_STOP;
    static final int ADD = FortranStatic.OP_ADD;
    static final int SUB = FortranStatic.OP_SUB;
    static final int MUL = FortranStatic.OP_MUL;
    static final int DIV = FortranStatic.OP_DIV;
    static final int OK = FortranStatic.C_OK;
    static final int DONE = FortranStatic.RUN_DONE;
    static final int STEPS = FortranStatic.RUN_STEPS;
    static final int INDEX = FortranStatic.RUN_INDEX;

    private String only = "";
    private int looked = 0;
    private int broken = 0;
    private Check check = new Check();

    /** Calls holds() for each sentence. */
    abstract void sentences();

    void look(String[] args) {
        only = args.length == 0 ? "" : args[0];
        sentences();
        if (looked == 0 || broken != 0) {
            System.out.println(broken + " of " + looked + " sentences do not hold");
            System.exit(1);
        }
    }

    void holds(String number, String words, Runnable test) {
        if (!only.isEmpty() && !only.equals(number)) {
            return;
        }
        looked++;
        check = new Check();
        try {
            test.run();
        } catch (RuntimeException e) {
            check.due("a call threw " + e + ":", true, false);
        }
        if (check.failed()) {
            broken++;
            System.out.println("sentence " + number + " does not hold: " + words);
        }
    }

    static FortranStatic fresh() {
        return new FortranStatic(64, 32);
    }

    /** Element i of name n. */
    static int fixed(int n, int i) {
        return 10000 + 100 * n + i;
    }

    /** The element of name n that name m tells. */
    static int indexed(int n, int m) {
        return 20000 + 100 * n + m;
    }

    void due(String call, long got, long want) {
        check.due(call, got, want);
    }

    void due(String call, boolean got, boolean want) {
        check.due(call, got, want);
    }

    void accepted(String call, boolean got) {
        check.due(call, got, true);
    }

    /** The call answers false and leaves all that the getters show as it was. */
    void refused(String call, FortranStatic f, BooleanSupplier made) {
        String before = everythingShown(f);
        check.due(call, made.getAsBoolean(), false);
        unchanged(call, f, before);
    }

    void unchanged(String call, FortranStatic f, String before) {
        check.due(call + " changes nothing", everythingShown(f).equals(before), true);
    }

    void add(FortranStatic f, int unit, int label, int kind, int extra, int... codes) {
        check.add(f, unit, label, kind, extra, codes);
    }

    /** Lets code get value, by seven statements, as the language has no constant above 9999 or below 0. */
    void build(FortranStatic f, int unit, int code, int value) {
        add(f, unit, 0, ASSIGN, ADD, code, value >>> 24, 0);
        for (int shift = 16; shift >= 0; shift -= 8) {
            add(f, unit, 0, ASSIGN, MUL, code, code, 256);
            add(f, unit, 0, ASSIGN, ADD, code, code, value >>> shift & 255);
        }
    }

    void compiles(String what, FortranStatic f, int answer) {
        due(what + ": compile()", f.compile(), answer);
    }

    void runs(String what, FortranStatic f, int maxSteps, int answer, int steps) {
        check.runs(what, f, maxSteps, answer, steps);
    }

    void printed(String what, FortranStatic f, int... values) {
        check.printed(what, f, values);
    }

    static int pending(FortranStatic f) {
        return f.query(FortranStatic.Q_PENDING, 0, 0);
    }

    static int steps(FortranStatic f) {
        return f.query(FortranStatic.Q_STEPS, 0, 0);
    }

    static int length(FortranStatic f, int unit, int name) {
        return f.query(FortranStatic.Q_LENGTH, unit, name);
    }

    static int params(FortranStatic f, int unit) {
        return f.query(FortranStatic.Q_PARAMS, unit, 0);
    }

    static int extent(FortranStatic f, int block) {
        return f.query(FortranStatic.Q_EXTENT, block, 0);
    }

    /** The number of statements, as the getters show it. */
    static int statements(FortranStatic f) {
        int count = 0;
        while (f.query(FortranStatic.Q_STMT, count, 0) >= 0) {
            count++;
        }
        return count;
    }

    /** A program for each answer of compile(), with that one fault; C_INCOMPLETE awaits one operand. */
    FortranStatic answering(int answer) {
        FortranStatic f = fresh();
        f.dimension(0, 5, 4);
        f.common(0, 1, 5);
        add(f, 0, 1, PRINT, 0, 7);
        if (answer == FortranStatic.C_INCOMPLETE) {
            f.statement(0, 0, PRINT, 0);
        } else if (answer == FortranStatic.C_DUMMY) {
            f.parameters(2, 1);
            f.dimension(2, 0, 2);
        } else if (answer == FortranStatic.C_INDEX) {
            add(f, 0, 0, PRINT, 0, fixed(6, 2));
        } else if (answer == FortranStatic.C_CONFLICT) {
            f.equivalence(0, fixed(5, 1), fixed(5, 2));
        } else if (answer == FortranStatic.C_BACKWARD) {
            f.dimension(0, 6, 2);
            f.equivalence(0, fixed(5, 1), fixed(6, 2));
        } else if (answer == FortranStatic.C_LABEL) {
            add(f, 0, 0, GOTO, 1, 1, 2);
        } else if (answer == FortranStatic.C_CALL) {
            add(f, 0, 0, CALL, 1 + 4, fixed(0, 1));
        }
        return f;
    }

    static String everythingShown(FortranStatic f) {
        StringBuilder shown = new StringBuilder();
        for (int kind = 0; kind <= 12; kind++) {
            int last = kind == FortranStatic.Q_STMT ? 64 : kind == FortranStatic.Q_EQUIV ? 16 : 8;
            for (int a = -1; a <= last; a++) {
                for (int b = -1; b <= 9; b++) {
                    shown.append(f.query(kind, a, b)).append(' ');
                }
            }
        }
        for (int index = 0; index <= 32; index++) {
            shown.append(f.output(index)).append(' ');
        }
        for (int unit = 0; unit < 4; unit++) {
            for (int name = 0; name < 8; name++) {
                for (int i = 0; i <= 16; i++) {
                    shown.append(f.value(unit, fixed(name, i))).append(' ');
                }
                for (int other = 0; other < 32; other++) {
                    shown.append(f.aliased(unit, fixed(name, 1), other / 8, fixed(other % 8, 1)) ? '=' : '.');
                }
            }
        }
        return shown.toString();
    }
}
