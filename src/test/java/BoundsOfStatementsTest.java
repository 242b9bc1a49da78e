/** Sentences of promise 6 that name a boundary case. */
public final class BoundsOfStatementsTest extends Bounds {
    private static final int[] CONSTANTS = {0, 1, 99, 100, 9999};
    private static final int[] VARIABLES = {10000, 10001, 10016, 10700, 10716, 20000, 20007, 20707};
    private static final int[] INVALID = {MIN, -1, 10017, 10717, 10800, 19999, 20008, 20708, 20800, 30000, MAX};

    public static void main(String[] args) {
        new BoundsOfStatementsTest().look(args);
    }

    @Override
    void sentences() {
        holds("6.1", "its operands follow by `operand(code)`, one call each, in the order listed below.", this::operandsInOrder);
        holds("6.2", "A unit's statements are in the order added", this::orderOfStatements);
        holds("6.3", "statements of different units may be added interleaved.", this::interleaved);
        holds("6.4", "K_ASSIGN | OP_ADD..OP_DIV | W dest, V a, V b", () -> row(ASSIGN, new int[] {0, 1, 2, 3}, "WVV"));
        holds("6.5", "K_IF | 0 | V a, V b, L neg, L zero, L pos", () -> row(IF, new int[] {0}, "VVLLL"));
        holds("6.6", "K_GOTO | k in 1..4 | V i, L 1, .., L k", () -> row(GOTO, new int[] {1, 2, 3, 4}, "V"));
        holds("6.7", "K_DO | 0 | L end, W var, V start, V limit, V step", () -> row(DO, new int[] {0}, "LWVVV"));
        holds("6.8", "K_CALL | s + 4*c, s 1..3, c 0..3 | W arg 1, .., W arg c",
            () -> row(CALL, new int[] {1, 2, 3, 5, 6, 7, 9, 10, 11, 13, 14, 15}, ""));
        holds("6.9", "K_PRINT | 0 | V a", () -> row(PRINT, new int[] {0}, "V"));
        holds("6.10", "K_CONTINUE, K_RETURN, K_STOP | 0 | none | complete at once", this::rowsWithoutOperands);
        holds("6.11", "A V place takes any valid code", this::valuePlaces);
        holds("6.12", "a W place a variable code", this::variablePlaces);
        holds("6.13", "an L place a constant.", this::labelPlaces);
        holds("6.14", "adds a statement of unit (0..3) with label (0 = none, 1..99) and answers true.", this::adds);
        holds("6.15", "It is refused when compile() was called", this::statementOnceCompiled);
        holds("6.16", "when the newest statement still awaits operands", this::statementWhileAwaiting);
        holds("6.17", "when an argument is out of range (unit 0..3, label 0..99, kind 1..9, extra as in the table)", this::outOfRange);
        holds("6.18", "or when statementCapacity statements exist (all units together).", this::full);
        holds("6.19", "A statement with no operand places is complete at once.", this::completeAtOnce);
        holds("6.20", "gives the next operand of the newest statement and answers true.", this::nextOperand);
        holds("6.21", "It is refused when compile() was called", this::operandOnceCompiled);
        holds("6.22", "when no statement awaits operands", this::operandForNone);
        holds("6.23", "or when code is invalid or not allowed in the place it would fill.", this::wrongOperands);
        holds("6.24", "Labels and element numbers are not judged here; compile() judges them.", this::notJudgedHere);
    }

    private static String places(int kind, int extra, String places) {
        return kind == GOTO ? "V" + "L".repeat(extra) : kind == CALL ? "W".repeat(extra / 4) : places;
    }

    private static int fitting(char place) {
        return place == 'L' ? 1 : fixed(0, 1);
    }

    /** Just these extras are taken, and each asks for these places one after the other. */
    private void row(int kind, int[] extras, String firstPlaces) {
        java.util.Set<Integer> taken = new java.util.HashSet<>();
        for (int extra : extras) {
            taken.add(extra);
            FortranStatic f = fresh();
            String places = places(kind, extra, firstPlaces);
            accepted("extra " + extra, f.statement(0, 0, kind, extra));
            due("extra " + extra + " awaits", pending(f), places.length());
            for (int p = 0; p < places.length(); p++) {
                char place = places.charAt(p);
                refused("place " + p + ", invalid", f, () -> f.operand(-1));
                if (place == 'W') {
                    refused("place " + p + ", a constant", f, () -> f.operand(1));
                } else if (place == 'L') {
                    refused("place " + p + ", a variable", f, () -> f.operand(fixed(0, 1)));
                    refused("place " + p + ", an indexed variable", f, () -> f.operand(indexed(0, 1)));
                } else {
                    FortranStatic g = fresh();
                    g.statement(0, 0, kind, extra);
                    for (int q = 0; q < p; q++) {
                        g.operand(fitting(places.charAt(q)));
                    }
                    accepted("place " + p + ", a constant", g.operand(1));
                }
                accepted("place " + p, f.operand(fitting(place)));
                due("then awaits", pending(f), places.length() - p - 1);
            }
            refused("one operand too many", f, () -> f.operand(1));
            refused("one operand too many", f, () -> f.operand(fixed(0, 1)));
        }
        FortranStatic f = fresh();
        for (int extra = -40; extra <= 40; extra++) {
            int e = extra;
            if (!taken.contains(extra)) {
                refused("extra " + extra, f, () -> f.statement(0, 0, kind, e));
            }
        }
        refused("the least extra", f, () -> f.statement(0, 0, kind, MIN));
        refused("the greatest extra", f, () -> f.statement(0, 0, kind, MAX));
    }

    private void rowsWithoutOperands() {
        row(CONTINUE, new int[] {0}, "");
        row(RETURN, new int[] {0}, "");
        row(STOP, new int[] {0}, "");
    }

    private void operandsInOrder() {
        FortranStatic f = fresh();
        add(f, 0, 0, ASSIGN, SUB, fixed(0, 1), 9, 5);
        add(f, 0, 0, IF, 0, 1, 2, 11, 12, 13);
        add(f, 0, 12, CONTINUE, 0);
        add(f, 0, 13, STOP, 0);
        add(f, 0, 11, DO, 0, 14, fixed(1, 1), 3, 7, 2);
        add(f, 0, 14, PRINT, 0, fixed(1, 1));
        add(f, 0, 0, GOTO, 4, 4, 13, 13, 13, 15);
        add(f, 0, 0, STOP, 0);
        add(f, 0, 15, CALL, 3 + 12, fixed(2, 1), fixed(3, 1), fixed(4, 1));
        f.parameters(3, 3);
        add(f, 3, 0, ASSIGN, ADD, fixed(0, 1), 21, 0);
        add(f, 3, 0, ASSIGN, ADD, fixed(1, 1), 22, 0);
        add(f, 3, 0, ASSIGN, ADD, fixed(2, 1), 23, 0);
        int[] kept = {9, 11, 14, 3, 7, 2};
        int[] statements = {0, 1, 4, 4, 4, 4};
        int[] fields = {5, 6, 4, 6, 7, 8};
        for (int i = 0; i < kept.length; i++) {
            due("operand", f.query(FortranStatic.Q_STMT, statements[i], fields[i]), kept[i]);
        }
        runs("each operand in its role", f, 100, DONE, 11);
        printed("each operand in its role", f, 3, 5, 7);
        due("a - b", f.value(0, fixed(0, 1)), 4);
        for (int i = 0; i < 3; i++) {
            due("argument " + i, f.value(0, fixed(2 + i, 1)), 21 + i);
        }
    }

    private void orderOfStatements() {
        FortranStatic f = new FortranStatic(64, 32);
        for (int i = 0; i < 32; i++) {
            add(f, 0, 32 - i, PRINT, 0, 100 + i);
        }
        runs("in the order added, whatever their labels", f, 100, DONE, 32);
        for (int i = 0; i < 32; i++) {
            due("output(" + i + ")", f.output(i), 100 + i);
        }
    }

    private void interleaved() {
        FortranStatic f = fresh();
        for (int i = 0; i < 3; i++) {
            for (int unit = 3; unit >= 0; unit--) {
                add(f, unit, i + 1, PRINT, 0, 10 * unit + i);
            }
        }
        for (int unit = 1; unit <= 3; unit++) {
            add(f, 0, 0, CALL, unit);
        }
        runs("interleaved", f, 100, DONE, 15);
        printed("interleaved", f, 0, 1, 2, 10, 11, 12, 20, 21, 22, 30, 31, 32);
    }

    private void valuePlaces() {
        for (int[] codes : new int[][] {CONSTANTS, VARIABLES}) {
            for (int code : codes) {
                FortranStatic f = fresh();
                f.statement(0, 0, PRINT, 0);
                accepted("value place: " + code, f.operand(code));
                due("kept", f.query(FortranStatic.Q_STMT, 0, 4), code);
            }
        }
        for (int code : INVALID) {
            FortranStatic f = fresh();
            f.statement(0, 0, PRINT, 0);
            refused("value place: " + code, f, () -> f.operand(code));
        }
    }

    private void variablePlaces() {
        for (int code : VARIABLES) {
            FortranStatic f = fresh();
            f.statement(0, 0, ASSIGN, 0);
            accepted("variable place: " + code, f.operand(code));
            due("kept", f.query(FortranStatic.Q_STMT, 0, 4), code);
        }
        for (int[] codes : new int[][] {CONSTANTS, INVALID}) {
            for (int code : codes) {
                FortranStatic f = fresh();
                f.statement(0, 0, ASSIGN, 0);
                refused("variable place: " + code, f, () -> f.operand(code));
            }
        }
    }

    private void labelPlaces() {
        for (int code : CONSTANTS) {
            FortranStatic f = fresh();
            f.statement(0, 0, DO, 0);
            accepted("label place: " + code, f.operand(code));
            due("kept", f.query(FortranStatic.Q_STMT, 0, 4), code);
        }
        for (int[] codes : new int[][] {VARIABLES, INVALID}) {
            for (int code : codes) {
                FortranStatic f = fresh();
                f.statement(0, 0, DO, 0);
                refused("label place: " + code, f, () -> f.operand(code));
            }
        }
    }

    private void adds() {
        int[] labels = {0, 1, 2, 98, 99};
        FortranStatic f = fresh();
        int index = 0;
        for (int unit = 0; unit <= 3; unit++) {
            for (int label : labels) {
                accepted("statement(" + unit + ", " + label + ")", f.statement(unit, label, CONTINUE, 0));
                due("unit", f.query(FortranStatic.Q_STMT, index, 0), unit);
                due("label", f.query(FortranStatic.Q_STMT, index, 1), label);
                index++;
            }
            // Two statements without a label do not share one.
            accepted("label 0 again", f.statement(unit, 0, CONTINUE, 0));
            index++;
        }
        due("statements", statements(f), 24);
        compiles("then", f, OK);
    }

    private void statementOnceCompiled() {
        for (int answer = 1; answer <= 8; answer++) {
            FortranStatic f = answering(answer);
            compiles("program", f, answer);
            for (int unit = 0; unit <= 3; unit++) {
                int u = unit;
                refused("statement after answer " + answer, f, () -> f.statement(u, 0, CONTINUE, 0));
                refused("statement after answer " + answer, f, () -> f.statement(u, 5, PRINT, 0));
            }
        }
        FortranStatic f = fresh();
        compiles("the empty program", f, OK);
        refused("statement", f, () -> f.statement(0, 0, STOP, 0));
        runs("the empty program", f, 10, DONE, 0);
        refused("statement after a run", f, () -> f.statement(0, 0, STOP, 0));
    }

    private void statementWhileAwaiting() {
        int[][] kinds = {{ASSIGN, 0, 3}, {IF, 0, 5}, {GOTO, 1, 2}, {GOTO, 4, 5}, {DO, 0, 5}, {CALL, 5, 1}, {CALL, 15, 3}, {PRINT, 0, 1}};
        for (int[] kind : kinds) {
            FortranStatic f = fresh();
            accepted("statement", f.statement(1, 0, kind[0], kind[1]));
            for (int left = kind[2]; left > 0; left--) {
                due("awaited", pending(f), left);
                refused("with " + left + " awaited", f, () -> f.statement(0, 0, CONTINUE, 0));
                refused("with " + left + " awaited", f, () -> f.statement(1, 0, PRINT, 0));
                accepted("operand", f.operand(1) || f.operand(fixed(0, 1)));
            }
            accepted("with none awaited", f.statement(0, 0, CONTINUE, 0));
        }
    }

    private void outOfRange() {
        FortranStatic f = fresh();
        int[] units = {MIN, -1, 4, MAX};
        int[] labels = {MIN, -1, 100, 101, MAX};
        int[] kinds = {MIN, -1, 0, 10, 11, MAX};
        for (int unit : units) {
            refused("unit " + unit, f, () -> f.statement(unit, 0, STOP, 0));
        }
        for (int label : labels) {
            refused("label " + label, f, () -> f.statement(0, label, STOP, 0));
        }
        for (int kind : kinds) {
            for (int extra = 0; extra <= 4; extra++) {
                int e = extra;
                refused("kind " + kind, f, () -> f.statement(0, 0, kind, e));
            }
        }
        int[][] extras = {{ASSIGN, -1}, {ASSIGN, 4}, {IF, 1}, {IF, -1}, {GOTO, 0}, {GOTO, 5}, {GOTO, -1}, {DO, 1}, {DO, -1},
            {CALL, -1}, {CALL, 0}, {CALL, 4}, {CALL, 8}, {CALL, 12}, {CALL, 16}, {CALL, 17}, {CALL, -3}, {PRINT, 1}, {PRINT, -1},
            {CONTINUE, 1}, {CONTINUE, -1}, {RETURN, 1}, {RETURN, -1}, {STOP, 1}, {STOP, -1}};
        for (int[] pair : extras) {
            refused("kind " + pair[0] + ", extra " + pair[1], f, () -> f.statement(0, 0, pair[0], pair[1]));
        }
        due("none was added", statements(f), 0);
    }

    private void full() {
        int[] capacities = {8, 9, 63, 64};
        for (int capacity : capacities) {
            FortranStatic f = new FortranStatic(capacity, 4);
            for (int i = 0; i < capacity; i++) {
                add(f, i % 4, 0, ASSIGN, ADD, fixed(0, 1), fixed(0, 1), i);
            }
            for (int unit = 0; unit <= 3; unit++) {
                int u = unit;
                refused("one more than " + capacity, f, () -> f.statement(u, 0, STOP, 0));
                refused("one more than " + capacity, f, () -> f.statement(u, 0, PRINT, 0));
            }
            due("statements", statements(f), capacity);
            due("the last operand", f.query(FortranStatic.Q_STMT, capacity - 1, 6), capacity - 1);
            runs("full", f, 100, DONE, (capacity + 3) / 4);
        }
        // The last one that fits may still be given its operands.
        FortranStatic f = new FortranStatic(8, 4);
        for (int i = 0; i < 7; i++) {
            add(f, 0, 0, CONTINUE, 0);
        }
        add(f, 0, 0, DO, 0, 1, fixed(0, 1), 1, 1, 1);
        due("operand", f.query(FortranStatic.Q_STMT, 7, 8), 1);
    }

    private void completeAtOnce() {
        int[][] kinds = {{CONTINUE, 0}, {RETURN, 0}, {STOP, 0}, {CALL, 1}, {CALL, 2}, {CALL, 3}};
        for (int[] kind : kinds) {
            FortranStatic f = fresh();
            accepted("statement", f.statement(0, 0, kind[0], kind[1]));
            due("awaited", pending(f), 0);
            refused("a constant", f, () -> f.operand(1));
            refused("a variable", f, () -> f.operand(fixed(0, 1)));
            accepted("the next statement", f.statement(0, 0, kind[0], kind[1]));
            compiles("complete", f, OK);
        }
    }

    private void nextOperand() {
        FortranStatic f = fresh();
        add(f, 0, 0, PRINT, 0, 31);
        accepted("statement", f.statement(0, 0, IF, 0));
        int[] codes = {41, 42, 43, 44, 45};
        for (int i = 0; i < 5; i++) {
            accepted("operand", f.operand(codes[i]));
            for (int p = 0; p < 5; p++) {
                due("place " + p, f.query(FortranStatic.Q_STMT, 1, 4 + p), p <= i ? codes[p] : -1);
            }
            due("the statement before", f.query(FortranStatic.Q_STMT, 0, 4), 31);
            due("its next place", f.query(FortranStatic.Q_STMT, 0, 5), -1);
        }
    }

    private void operandOnceCompiled() {
        for (int given = 0; given < 5; given++) {
            FortranStatic f = fresh();
            accepted("statement", f.statement(0, 0, IF, 0));
            for (int i = 0; i < given; i++) {
                accepted("operand", f.operand(1));
            }
            compiles("with " + given + " given", f, FortranStatic.C_INCOMPLETE);
            refused("operand", f, () -> f.operand(1));
            due("still awaited", pending(f), 5 - given);
        }
        for (int answer = 1; answer <= 8; answer++) {
            FortranStatic f = answering(answer);
            compiles("program", f, answer);
            refused("operand after answer " + answer, f, () -> f.operand(1));
        }
    }

    private void operandForNone() {
        FortranStatic f = fresh();
        refused("no statement at all", f, () -> f.operand(1));
        refused("no statement at all", f, () -> f.operand(fixed(0, 1)));
        add(f, 0, 0, PRINT, 0, 1);
        refused("a complete PRINT", f, () -> f.operand(1));
        accepted("CONTINUE", f.statement(0, 0, CONTINUE, 0));
        refused("a CONTINUE", f, () -> f.operand(1));
        add(f, 0, 0, GOTO, 4, 1, 1, 1, 1, 1);
        refused("a complete GOTO", f, () -> f.operand(1));
        add(f, 0, 0, GOTO, 1, 1, 1);
        refused("a complete GOTO with one label", f, () -> f.operand(1));
        add(f, 0, 0, CALL, 15, fixed(0, 1), fixed(0, 1), fixed(0, 1));
        refused("a complete CALL", f, () -> f.operand(fixed(0, 1)));
    }

    private void wrongOperands() {
        FortranStatic f = fresh();
        accepted("DO", f.statement(0, 0, DO, 0));
        refuseInvalid(f);
        refused("a variable as label", f, () -> f.operand(10000));
        accepted("label", f.operand(9));
        refuseInvalid(f);
        refused("a constant as variable", f, () -> f.operand(9999));
        accepted("variable", f.operand(20000));
        for (int i = 0; i < 3; i++) {
            refuseInvalid(f);
            accepted("value", f.operand(i));
        }
        due("none awaited", pending(f), 0);
    }

    private void refuseInvalid(FortranStatic f) {
        for (int code : INVALID) {
            refused("operand " + code, f, () -> f.operand(code));
        }
    }

    private void notJudgedHere() {
        int[] labels = {0, 1, 55, 99, 100, 9999};
        for (int label : labels) {
            FortranStatic f = fresh();
            add(f, 0, 0, GOTO, 1, 1, label);
            compiles("label " + label + " that is none", f, FortranStatic.C_LABEL);
        }
        for (int i = 2; i <= 16; i++) {
            FortranStatic f = fresh();
            add(f, 0, 0, PRINT, 0, fixed(0, i));
            compiles("element " + i + " of 1", f, FortranStatic.C_INDEX);
            FortranStatic g = fresh();
            add(g, 0, 0, PRINT, 0, fixed(0, i));
            accepted("dimension afterwards", g.dimension(0, 0, i));
            compiles("element " + i + " of " + i, g, OK);
        }
        FortranStatic f = fresh();
        add(f, 0, 0, DO, 0, 7, fixed(0, 1), 1, 1, 1);
        add(f, 0, 7, STOP, 0);
        compiles("a DO that ends at a STOP", f, FortranStatic.C_LABEL);
    }
}
