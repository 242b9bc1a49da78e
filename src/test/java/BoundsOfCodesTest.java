/** Sentences of 'What it is', 'Units and names' and 'Operand codes' that name a boundary case. */
public final class BoundsOfCodesTest extends Bounds {
    private static final int[] NO_UNIT = {MIN, -1, 4, 5, MAX};
    private static final int[] NO_NAME = {MIN, -1, 8, 9, MAX};

    public static void main(String[] args) {
        new BoundsOfCodesTest().look(args);
    }

    @Override
    void sentences() {
        holds("W.1", "Arithmetic wraps as Java int arithmetic.", this::wraps);
        holds("W.2", "A refused call changes nothing.", this::refusalsLeaveNoTrace);
        holds("W.3", "All storage is static.", this::storageIsStatic);
        holds("U.1", "Units are 0..3: unit 0 is the main program, units 1..3 are subroutines.", this::units);
        holds("U.2", "Each unit has names 0..7.", this::names);
        holds("U.3", "Each name has a length 1..16 (default 1).", this::lengths);
        holds("U.4", "Unit u >= 1 has a parameter count p(u) in 0..3 (default 0)", this::parameterCounts);
        holds("U.5", "p(0) is always 0.", this::mainHasNoParameters);
        holds("U.6", "Names 0..p(u)-1 of u are DUMMIES", this::lastDummy);
        holds("U.7", "they own no storage", this::dummiesOwnNothing);
        holds("U.8", "while u is active each is bound to the cell its caller passed, and that cell is its element 1.", this::binding);
        holds("U.9", "Every other name is STORED and owns the cells n(1)..n(length).", this::storedNames);
        holds("U.10", "Wherever this document says 'length' of a dummy it means 1.", this::lengthOfDummy);
        holds("O.1", "0 .. 9999: CONSTANT with that value", this::constants);
        holds("O.2", "in a label place, that label number.", this::labels);
        holds("O.3", "10000 + 100*n + i: FIXED, element i of name n; n in 0..7, i in 0..16", this::fixedCodes);
        holds("O.4", "i = 0 means 1.", this::elementZero);
        holds("O.5", "20000 + 100*n + m: INDEXED, element k of name n, n in 0..7, m in 0..7", this::indexedCodes);
        holds("O.6", "where k is the value of element 1 of name m at the time of use.", this::indexAtTheTimeOfUse);
        holds("O.7", "Every other int is invalid.", this::invalidCodes);
        holds("O.8", "Fixed and indexed codes are VARIABLE codes.", this::variableCodes);
        holds("O.9", "A variable code's cell is found anew at every use.", this::cellsAreFoundAnew);
        holds("O.10", "For an indexed code k is read first; if k < 1 or k > length of n, the run ends with RUN_INDEX.", this::indexes);
    }

    private int computed(int operator, int x, int y) {
        FortranStatic f = fresh();
        build(f, 0, fixed(0, 1), x);
        build(f, 0, fixed(1, 1), y);
        add(f, 0, 0, ASSIGN, operator, fixed(2, 1), fixed(0, 1), fixed(1, 1));
        runs("operator " + operator + " with " + x + " and " + y, f, 100, DONE, 15);
        return f.value(0, fixed(2, 1));
    }

    private void wraps() {
        due("MAX + 1", computed(ADD, MAX, 1), MIN);
        due("MIN + -1", computed(ADD, MIN, -1), MAX);
        due("MIN - 1", computed(SUB, MIN, 1), MAX);
        due("MAX - -1", computed(SUB, MAX, -1), MIN);
        due("0 - MIN", computed(SUB, 0, MIN), MIN);
        due("MAX * 2", computed(MUL, MAX, 2), -2);
        due("65536 * 65536", computed(MUL, 65536, 65536), 0);
        due("MIN * -1", computed(MUL, MIN, -1), MIN);
        due("MIN / -1", computed(DIV, MIN, -1), MIN);
    }

    private void refusalsLeaveNoTrace() {
        FortranStatic f = new FortranStatic(8, 4);
        refuseWhatIsOutOfRange(f);
        for (int i = 0; i < 16; i++) {
            accepted("equivalence " + i, f.equivalence(i % 4, fixed(7, 0), fixed(7, 1)));
        }
        refused("a seventeenth equivalence", f, () -> f.equivalence(0, fixed(6, 1), fixed(7, 1)));
        for (int i = 0; i < 8; i++) {
            accepted("entry " + i, f.common(3, i % 4, i));
        }
        refused("a ninth entry", f, () -> f.common(3, 2, 1));
        accepted("a DO", f.statement(0, 0, DO, 0));
        refuseWhatIsOutOfRange(f);
        refused("a statement while one awaits operands", f, () -> f.statement(0, 0, STOP, 0));
        refused("a variable for a label", f, () -> f.operand(fixed(0, 1)));
        accepted("the label", f.operand(9));
        refused("a constant for a variable", f, () -> f.operand(9));
        for (int i = 0; i < 4; i++) {
            accepted("operand", f.operand(fixed(7, 1)));
        }
        refused("an operand too many", f, () -> f.operand(fixed(7, 1)));
        for (int i = 1; i < 8; i++) {
            add(f, 0, i == 7 ? 9 : 0, PRINT, 0, i);
        }
        refused("a ninth statement", f, () -> f.statement(0, 0, STOP, 0));
        compiles("then", f, OK);
        refuseWhatComesLate(f);
        due("run", f.run(100), FortranStatic.RUN_ZEROSTEP);
        refuseWhatComesLate(f);
        for (int answer = 2; answer <= 8; answer++) {
            FortranStatic faulty = answering(answer);
            refused("a run before compile", faulty, () -> faulty.run(100) != FortranStatic.RUN_REFUSED);
            compiles("faulty", faulty, answer);
            refuseWhatComesLate(faulty);
            refused("a run after answer " + answer, faulty, () -> faulty.run(100) != FortranStatic.RUN_REFUSED);
        }
    }

    private void storageIsStatic() {
        // A name of a subroutine keeps its value from call to call, also while other units are called.
        FortranStatic f = fresh();
        f.dimension(1, 7, 16);
        add(f, 0, 0, DO, 0, 5, fixed(0, 1), 1, 3, 1);
        add(f, 0, 0, CALL, 1);
        add(f, 0, 5, CALL, 2);
        add(f, 1, 0, ASSIGN, ADD, fixed(0, 1), fixed(0, 1), 1);
        add(f, 1, 0, ASSIGN, ADD, fixed(7, 16), fixed(7, 16), fixed(0, 1));
        add(f, 1, 0, PRINT, 0, fixed(7, 16));
        add(f, 2, 0, ASSIGN, ADD, fixed(0, 1), fixed(0, 1), 10);
        add(f, 2, 0, CALL, 3);
        add(f, 3, 0, ASSIGN, ADD, fixed(0, 1), fixed(0, 1), 100);
        runs("three calls each", f, 100, DONE, 1 + 3 * (2 + 3 + 2 + 1));
        printed("three calls each", f, 1, 3, 6);
        due("unit 1", f.value(1, fixed(0, 1)), 3);
        due("unit 2", f.value(2, fixed(0, 1)), 30);
        due("unit 3", f.value(3, fixed(0, 1)), 300);
    }

    private void refuseWhatIsOutOfRange(FortranStatic f) {
        refused("dimension", f, () -> f.dimension(0, 0, 17));
        refused("parameters", f, () -> f.parameters(0, 1));
        refused("parameters", f, () -> f.parameters(1, 4));
        refused("common", f, () -> f.common(0, 4, 0));
        refused("equivalence", f, () -> f.equivalence(0, fixed(0, 1), 5));
        refused("statement", f, () -> f.statement(0, 0, GOTO, 5));
        refused("operand", f, () -> f.operand(-1));
    }

    private void refuseWhatComesLate(FortranStatic f) {
        refused("dimension", f, () -> f.dimension(0, 0, 9));
        refused("parameters", f, () -> f.parameters(1, 3));
        refused("common", f, () -> f.common(1, 1, 1));
        refused("equivalence", f, () -> f.equivalence(1, fixed(0, 1), fixed(1, 1)));
        refused("statement", f, () -> f.statement(0, 0, STOP, 0));
        refused("operand", f, () -> f.operand(1));
    }

    private void units() {
        FortranStatic f = fresh();
        for (int unit = 0; unit <= 3; unit++) {
            accepted("dimension in unit " + unit, f.dimension(unit, 0, 2));
            accepted("common in unit " + unit, f.common(unit, unit, 0));
            accepted("equivalence in unit " + unit, f.equivalence(unit, fixed(0, 1), fixed(1, 1)));
            add(f, unit, 0, PRINT, 0, unit);
        }
        for (int unit : NO_UNIT) {
            refused("dimension in unit " + unit, f, () -> f.dimension(unit, 0, 3));
            refused("parameters of unit " + unit, f, () -> f.parameters(unit, 1));
            refused("common in unit " + unit, f, () -> f.common(unit, 0, 0));
            refused("equivalence in unit " + unit, f, () -> f.equivalence(unit, fixed(0, 1), fixed(1, 1)));
            refused("statement in unit " + unit, f, () -> f.statement(unit, 0, STOP, 0));
        }
        for (int unit = 1; unit <= 3; unit++) {
            add(f, 0, 0, CALL, unit);
        }
        refused("a CALL of unit 0", f, () -> f.statement(0, 0, CALL, 0));
        runs("unit 0 calls the others", f, 100, DONE, 7);
        printed("unit 0 calls the others", f, 0, 1, 2, 3);
    }

    private void names() {
        FortranStatic f = fresh();
        for (int unit = 0; unit <= 3; unit++) {
            for (int name = 0; name <= 7; name++) {
                accepted("dimension of name " + name, f.dimension(unit, name, 1));
                accepted("common of name " + name, f.common(unit, unit, name));
                accepted("equivalence", name > 3 || f.equivalence(unit, fixed(name, 1), fixed(name, 1)));
                add(f, unit, 0, ASSIGN, ADD, fixed(name, 1), 10 * unit, name + 1);
            }
            for (int name : NO_NAME) {
                int u = unit;
                refused("dimension of name " + name, f, () -> f.dimension(u, name, 2));
            }
        }
        FortranStatic g = fresh();
        for (int name : NO_NAME) {
            refused("common of name " + name, g, () -> g.common(0, 0, name));
        }
        refused("equivalence of name 8", g, () -> g.equivalence(0, fixed(8, 1), fixed(0, 1)));
        for (int unit = 1; unit <= 3; unit++) {
            add(f, 0, 0, CALL, unit);
        }
        runs("eight names in each unit", f, 100, DONE, 35);
        for (int unit = 0; unit <= 3; unit++) {
            for (int name = 0; name <= 7; name++) {
                due("name " + name + " of unit " + unit, f.value(unit, fixed(name, 1)), 10 * unit + name + 1);
            }
        }
    }

    private void lengths() {
        FortranStatic f = fresh();
        for (int unit = 0; unit <= 3; unit++) {
            for (int name = 0; name <= 7; name++) {
                int u = unit;
                int n = name;
                due("default length", length(f, unit, name), 1);
                accepted("length 16", f.dimension(unit, name, 16));
                due("length 16", length(f, unit, name), 16);
                refused("length 17", f, () -> f.dimension(u, n, 17));
                refused("length 0", f, () -> f.dimension(u, n, 0));
                accepted("length 1", f.dimension(unit, name, 1));
                due("length 1", length(f, unit, name), 1);
            }
        }
        FortranStatic g = fresh();
        add(g, 0, 0, PRINT, 0, fixed(0, 2));
        compiles("element 2 of a name with the default length", g, FortranStatic.C_INDEX);
    }

    private void parameterCounts() {
        for (int unit = 1; unit <= 3; unit++) {
            FortranStatic f = fresh();
            int u = unit;
            due("default count", params(f, unit), 0);
            for (int count = 0; count <= 3; count++) {
                accepted("count " + count, f.parameters(unit, count));
                due("count " + count, params(f, unit), count);
            }
            refused("count 4", f, () -> f.parameters(u, 4));
            refused("count -1", f, () -> f.parameters(u, -1));
            FortranStatic g = fresh();
            add(g, 0, 0, CALL, unit);
            compiles("a CALL without arguments, by default", g, OK);
        }
    }

    private void mainHasNoParameters() {
        FortranStatic f = fresh();
        for (int count = 0; count <= 3; count++) {
            int c = count;
            refused("parameters of unit 0", f, () -> f.parameters(0, c));
        }
        due("p(0)", params(f, 0), 0);
        f.parameters(1, 3);
        f.parameters(2, 3);
        f.parameters(3, 3);
        due("p(0)", params(f, 0), 0);
        f.dimension(0, 0, 2);
        f.common(0, 0, 0);
        f.equivalence(0, fixed(0, 2), fixed(1, 1));
        add(f, 0, 0, ASSIGN, ADD, fixed(0, 2), 6, 0);
        runs("name 0 of unit 0 is stored", f, 10, DONE, 1);
        due("name 0 of unit 0 is stored", f.value(0, fixed(1, 1)), 6);
    }

    private void lastDummy() {
        for (int count = 0; count <= 3; count++) {
            for (int name = 0; name <= 7; name++) {
                FortranStatic f = fresh();
                f.parameters(3, count);
                f.common(3, 0, name);
                compiles("name " + name + " of " + count, f, name < count ? FortranStatic.C_DUMMY : OK);
            }
        }
    }

    private void dummiesOwnNothing() {
        FortranStatic f = fresh();
        f.parameters(1, 3);
        add(f, 0, 0, CALL, 1 + 12, fixed(4, 1), fixed(5, 1), fixed(6, 1));
        for (int name = 0; name <= 3; name++) {
            add(f, 1, 0, ASSIGN, ADD, fixed(name, 1), 50, name);
        }
        runs("dummies", f, 10, DONE, 5);
        for (int name = 0; name <= 2; name++) {
            due("value of dummy " + name, f.value(1, fixed(name, 1)), 0);
            due("dummy " + name + " and itself", f.aliased(1, fixed(name, 1), 1, fixed(name, 1)), false);
            due("dummy " + name + " and what was passed", f.aliased(1, fixed(name, 1), 0, fixed(4 + name, 1)), false);
            due("what was passed", f.value(0, fixed(4 + name, 1)), 50 + name);
        }
        due("a stored name", f.value(1, fixed(3, 1)), 53);
    }

    private void binding() {
        FortranStatic f = fresh();
        f.parameters(2, 3);
        f.dimension(0, 7, 16);
        add(f, 0, 0, ASSIGN, ADD, fixed(7, 16), 1, 0);
        add(f, 0, 0, CALL, 2 + 12, fixed(7, 16), fixed(7, 1), fixed(7, 0));
        add(f, 2, 0, ASSIGN, ADD, fixed(1, 0), fixed(0, 1), 8);
        add(f, 2, 0, ASSIGN, ADD, indexed(0, 0), fixed(2, 1), 2);
        runs("the last and the first element are passed", f, 10, DONE, 4);
        due("the first element", f.value(0, fixed(7, 1)), 9);
        due("the last element", f.value(0, fixed(7, 16)), 11);
        for (int i = 2; i <= 15; i++) {
            due("element " + i, f.value(0, fixed(7, i)), 0);
        }
    }

    private void storedNames() {
        FortranStatic f = fresh();
        f.parameters(1, 2);
        f.dimension(1, 2, 16);
        f.dimension(1, 3, 16);
        add(f, 0, 0, CALL, 1 + 8, fixed(0, 1), fixed(1, 1));
        add(f, 1, 0, DO, 0, 5, fixed(4, 1), 1, 16, 1);
        add(f, 1, 0, ASSIGN, ADD, indexed(2, 4), fixed(4, 1), 100);
        add(f, 1, 5, ASSIGN, ADD, indexed(3, 4), fixed(4, 1), 200);
        runs("all elements", f, 100, DONE, 34);
        for (int i = 1; i <= 16; i++) {
            due("element " + i + " of the first name that is no dummy", f.value(1, fixed(2, i)), 100 + i);
            due("element " + i + " of the next", f.value(1, fixed(3, i)), 200 + i);
            due("another cell than the next", i < 16 && f.aliased(1, fixed(2, i), 1, fixed(2, i + 1)), false);
            due("another cell than that of the next name", f.aliased(1, fixed(2, i), 1, fixed(3, i)), false);
        }
        due("the name after them", f.value(1, fixed(5, 1)), 0);
    }

    private void lengthOfDummy() {
        for (int i = 0; i <= 16; i++) {
            FortranStatic f = fresh();
            f.parameters(1, 1);
            add(f, 1, 0, PRINT, 0, fixed(0, i));
            compiles("element " + i + " of a dummy", f, i <= 1 ? OK : FortranStatic.C_INDEX);
        }
        for (int k = 0; k <= 3; k++) {
            FortranStatic f = fresh();
            f.parameters(1, 1);
            f.dimension(0, 4, 16);
            add(f, 0, 0, CALL, 1 + 4, fixed(4, 1));
            add(f, 1, 0, ASSIGN, ADD, fixed(3, 1), k, 0);
            add(f, 1, 0, ASSIGN, ADD, indexed(0, 3), 6, 0);
            runs("element " + k + " of a dummy bound to an array", f, 10, k == 1 ? DONE : INDEX, 3);
            due("the cell passed", f.value(0, fixed(4, 1)), k == 1 ? 6 : 0);
        }
    }

    private void constants() {
        int[] edges = {0, 1, 9998, 9999};
        for (int edge : edges) {
            FortranStatic f = fresh();
            add(f, 0, 0, PRINT, 0, edge);
            runs("constant " + edge, f, 10, DONE, 1);
            printed("constant " + edge, f, edge);
        }
        FortranStatic f = fresh();
        accepted("PRINT", f.statement(0, 0, PRINT, 0));
        refused("constant -1", f, () -> f.operand(-1));
        accepted("10000 is no constant but element 1 of name 0", f.operand(10000));
        add(f, 0, 0, ASSIGN, ADD, fixed(0, 1), 3, 0);
        add(f, 0, 0, PRINT, 0, 10000);
        runs("10000", f, 10, DONE, 3);
        printed("10000", f, 0, 3);
    }

    private void labels() {
        for (int label = 1; label <= 99; label += 49) {
            FortranStatic f = fresh();
            add(f, 0, 0, GOTO, 1, 1, label);
            add(f, 0, 0, PRINT, 0, 1);
            add(f, 0, label, PRINT, 0, 2);
            add(f, 0, label % 99 + 1, PRINT, 0, 3);
            runs("label " + label, f, 10, DONE, 3);
            printed("label " + label, f, 2, 3);
        }
        FortranStatic f = fresh();
        accepted("DO", f.statement(0, 0, DO, 0));
        refused("a label of -1", f, () -> f.operand(-1));
        refused("a label of 10000", f, () -> f.operand(10000));
        accepted("a label of 9999", f.operand(9999));
        due("the label", f.query(FortranStatic.Q_STMT, 0, 4), 9999);
    }

    private void fixedCodes() {
        for (int code = 9900; code <= 11000; code++) {
            boolean isFixed = code >= 10000 && code < 10800 && code % 100 <= 16;
            FortranStatic f = fresh();
            due("equivalence with " + code, f.equivalence(0, code, fixed(0, 1)), isFixed);
        }
        FortranStatic f = fresh();
        f.dimension(0, 0, 16);
        f.dimension(0, 7, 16);
        int[] codes = {10001, 10016, 10701, 10716};
        for (int i = 0; i < 4; i++) {
            add(f, 0, 0, ASSIGN, ADD, codes[i], i, 5);
        }
        runs("the corners", f, 10, DONE, 4);
        for (int i = 0; i < 4; i++) {
            due("code " + codes[i], f.value(0, codes[i]), i + 5);
        }
        due("code 10717", f.value(0, 10717), 0);
        due("code 10816", f.value(0, 10816), 0);
    }

    private void elementZero() {
        FortranStatic f = fresh();
        f.dimension(0, 3, 4);
        add(f, 0, 0, ASSIGN, ADD, fixed(3, 0), 8, 0);
        add(f, 0, 0, PRINT, 0, fixed(3, 1));
        add(f, 0, 0, ASSIGN, ADD, fixed(3, 1), 9, 0);
        add(f, 0, 0, PRINT, 0, fixed(3, 0));
        runs("element 0", f, 10, DONE, 4);
        printed("element 0", f, 8, 9);
        due("the code stays as given", f.query(FortranStatic.Q_STMT, 0, 4), fixed(3, 0));
    }

    private void indexedCodes() {
        for (int code = 19900; code <= 21000; code++) {
            boolean isIndexed = code >= 20000 && code < 20800 && code % 100 <= 7;
            FortranStatic f = fresh();
            f.statement(0, 0, CALL, 1 + 4);
            due("operand " + code, f.operand(code), isIndexed);
        }
        for (int n = 0; n <= 7; n++) {
            for (int m = 0; m <= 7; m++) {
                FortranStatic f = fresh();
                f.dimension(0, n, 2);
                add(f, 0, 0, ASSIGN, ADD, fixed(m, 1), 2, 0);
                add(f, 0, 0, ASSIGN, ADD, indexed(n, m), 7, 0);
                runs("name " + n + " by name " + m, f, 10, DONE, 2);
                due("name " + n + " by name " + m, f.value(0, fixed(n, 2)), 7);
            }
        }
    }

    private void indexAtTheTimeOfUse() {
        FortranStatic f = fresh();
        f.dimension(0, 0, 3);
        f.dimension(0, 1, 2);
        add(f, 0, 0, ASSIGN, ADD, fixed(1, 2), 3, 0);
        add(f, 0, 2, ASSIGN, ADD, fixed(1, 1), fixed(1, 1), 1);
        add(f, 0, 0, ASSIGN, ADD, indexed(0, 1), fixed(1, 1), 40);
        add(f, 0, 0, IF, 0, fixed(1, 1), 3, 2, 3, 3);
        add(f, 0, 3, STOP, 0);
        runs("the index moves", f, 100, DONE, 11);
        for (int i = 1; i <= 3; i++) {
            due("element " + i, f.value(0, fixed(0, i)), 40 + i);
        }
    }

    private void invalidCodes() {
        int[] codes = {MIN, MIN + 1, -10001, -10000, -1, 10017, 10099, 10117, 10717, 10799, 10800, 10816, 11000, 19999,
            20008, 20016, 20099, 20108, 20708, 20799, 20800, 20807, 21000, 30000, 30101, 100000, 110000, MAX - 1, MAX};
        for (int code : codes) {
            FortranStatic f = fresh();
            refused("equivalence of first " + code, f, () -> f.equivalence(0, code, fixed(0, 1)));
            refused("equivalence of second " + code, f, () -> f.equivalence(0, fixed(0, 1), code));
            accepted("DO", f.statement(0, 0, DO, 0));
            refused("label place: " + code, f, () -> f.operand(code));
            accepted("label", f.operand(1));
            refused("variable place: " + code, f, () -> f.operand(code));
            accepted("variable", f.operand(fixed(0, 1)));
            refused("value place: " + code, f, () -> f.operand(code));
        }
    }

    private void variableCodes() {
        int[] codes = {10000, 10016, 10716, 20000, 20007, 20707};
        for (int code : codes) {
            FortranStatic f = fresh();
            f.statement(0, 0, CALL, 1 + 4);
            accepted("variable place: " + code, f.operand(code));
            FortranStatic g = fresh();
            g.statement(0, 0, DO, 0);
            refused("label place: " + code, g, () -> g.operand(code));
        }
        FortranStatic f = fresh();
        f.statement(0, 0, CALL, 1 + 4);
        refused("the least constant in a variable place", f, () -> f.operand(0));
        refused("the greatest constant in a variable place", f, () -> f.operand(9999));
    }

    private void cellsAreFoundAnew() {
        // One statement, used again after its index has moved, in each of the roles of a variable.
        FortranStatic f = fresh();
        f.dimension(0, 0, 4);
        f.dimension(0, 1, 4);
        add(f, 0, 0, DO, 0, 9, fixed(2, 1), 1, 4, 1);
        add(f, 0, 0, ASSIGN, MUL, indexed(0, 2), fixed(2, 1), 10);
        add(f, 0, 0, ASSIGN, ADD, indexed(1, 2), indexed(0, 2), 1);
        add(f, 0, 9, PRINT, 0, indexed(1, 2));
        runs("in a loop", f, 100, DONE, 13);
        printed("in a loop", f, 11, 21, 31, 41);

        // The destination is found after the value was read, with an index that the same cell holds.
        FortranStatic g = fresh();
        g.dimension(0, 0, 3);
        add(g, 0, 0, ASSIGN, ADD, fixed(0, 1), 1, 0);
        add(g, 0, 0, ASSIGN, ADD, indexed(0, 0), 3, 0);
        add(g, 0, 0, ASSIGN, ADD, indexed(0, 0), 7, 0);
        runs("its own index", g, 10, DONE, 3);
        due("element 1", g.value(0, fixed(0, 1)), 3);
        due("element 3", g.value(0, fixed(0, 3)), 7);
    }

    private void indexes() {
        int[] indexes = {MIN, -1, 0, 1, 2, 15, 16, 17, MAX};
        int[] lengths = {1, 2, 15, 16};
        for (int length : lengths) {
            for (int k : indexes) {
                boolean inside = k >= 1 && k <= length;
                FortranStatic f = fresh();
                f.dimension(0, 2, length);
                build(f, 0, fixed(1, 1), k);
                add(f, 0, 0, PRINT, 0, indexed(2, 1));
                runs("element " + k + " of " + length + ", read", f, 100, inside ? DONE : INDEX, 8);
                FortranStatic g = fresh();
                g.dimension(0, 2, length);
                build(g, 0, fixed(1, 1), k);
                add(g, 0, 0, ASSIGN, ADD, indexed(2, 1), 4, 0);
                runs("element " + k + " of " + length + ", written", g, 100, inside ? DONE : INDEX, 8);
                for (int i = 1; i <= length; i++) {
                    due("element " + i, g.value(0, fixed(2, i)), i == k ? 4 : 0);
                }
            }
        }
    }
}
