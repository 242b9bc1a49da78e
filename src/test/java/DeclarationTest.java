/** Promises 2 to 5: dimension, parameters, common and equivalence. */
public final class DeclarationTest {
    private static final Check check = new Check();
    private static final int[] ODD = {Integer.MIN_VALUE, -100, -1, 100, Integer.MAX_VALUE};

    public static void main(String[] args) {
        dimensionRanges();
        dimensionLastCallWins();
        dimensionOfDummies();
        parametersRanges();
        parametersLastCallWins();
        commonRanges();
        commonHoldsEightInEachUnit();
        commonOffsets();
        equivalenceRanges();
        equivalenceCodes();
        equivalenceHoldsSixteenInAll();
        allowedWhileAwaitingOperands();
        refusedOnceCompiled(true);
        refusedOnceCompiled(false);
        check.end();
    }

    private static FortranStatic fresh() {
        return new FortranStatic(16, 8);
    }

    private static void dimensionRanges() {
        FortranStatic f = fresh();
        for (int unit = 0; unit < 4; unit++) {
            for (int name = 0; name < 8; name++) {
                check.due("dimension", f.dimension(unit, name, 1 + (unit * 8 + name) % 16), true);
            }
        }
        for (int odd : ODD) {
            check.due("dimension of unit " + odd, f.dimension(odd, 0, 9), false);
            check.due("dimension of name " + odd, f.dimension(0, odd, 9), false);
            check.due("dimension to length " + odd, f.dimension(0, 0, odd), false);
        }
        check.due("dimension of unit 4", f.dimension(4, 0, 9), false);
        check.due("dimension of name 8", f.dimension(0, 8, 9), false);
        check.due("dimension to length 0", f.dimension(0, 5, 0), false);
        check.due("dimension to length 17", f.dimension(0, 5, 17), false);
        for (int unit = 0; unit < 4; unit++) {
            for (int name = 0; name < 8; name++) {
                check.due("length", f.query(FortranStatic.Q_LENGTH, unit, name), 1 + (unit * 8 + name) % 16);
            }
        }
    }

    private static void dimensionLastCallWins() {
        FortranStatic f = fresh();
        check.due("dimension to 16", f.dimension(2, 3, 16), true);
        check.due("dimension to 1", f.dimension(2, 3, 1), true);
        check.due("dimension to 5", f.dimension(2, 3, 5), true);
        check.due("length", f.query(FortranStatic.Q_LENGTH, 2, 3), 5);
        check.add(f, 2, 0, FortranStatic.K_PRINT, 0, 10306);
        check.due("element 6 of 5", f.compile(), FortranStatic.C_INDEX);
    }

    private static void dimensionOfDummies() {
        FortranStatic f = fresh();
        check.due("parameters", f.parameters(1, 2), true);
        check.due("dimension of a dummy", f.dimension(1, 1, 2), true);
        check.due("length as set", f.query(FortranStatic.Q_LENGTH, 1, 1), 2);
        check.due("a long dummy", f.compile(), FortranStatic.C_DUMMY);

        f = fresh();
        check.due("dimension of a dummy to be", f.dimension(3, 2, 16), true);
        check.due("parameters", f.parameters(3, 3), true);
        check.due("a dummy made long before", f.compile(), FortranStatic.C_DUMMY);

        f = fresh();
        f.parameters(1, 1);
        f.dimension(1, 0, 2);
        check.due("dimension back to 1", f.dimension(1, 0, 1), true);
        check.due("the last length counts", f.compile(), FortranStatic.C_OK);

        f = fresh();
        f.parameters(1, 1);
        f.dimension(1, 0, 2);
        check.due("parameters back to 0", f.parameters(1, 0), true);
        check.due("no dummy any more", f.compile(), FortranStatic.C_OK);

        f = fresh();
        f.parameters(1, 1);
        f.dimension(1, 1, 2);
        f.dimension(0, 0, 2);
        f.dimension(2, 0, 2);
        check.due("long names that are no dummies", f.compile(), FortranStatic.C_OK);
    }

    private static void parametersRanges() {
        FortranStatic f = fresh();
        for (int unit = 1; unit < 4; unit++) {
            for (int count = 0; count < 4; count++) {
                check.due("parameters(" + unit + ", " + count + ")", f.parameters(unit, count), true);
                check.due("p", f.query(FortranStatic.Q_PARAMS, unit, 0), count);
            }
            check.due("count 4", f.parameters(unit, 4), false);
        }
        for (int count = -1; count < 5; count++) {
            check.due("parameters(0, " + count + ")", f.parameters(0, count), false);
        }
        for (int odd : ODD) {
            check.due("parameters of unit " + odd, f.parameters(odd, 1), false);
            check.due("parameters with count " + odd, f.parameters(1, odd), false);
        }
        check.due("parameters of unit 4", f.parameters(4, 1), false);
        check.due("p(0)", f.query(FortranStatic.Q_PARAMS, 0, 0), 0);
        for (int unit = 1; unit < 4; unit++) {
            check.due("p(" + unit + ")", f.query(FortranStatic.Q_PARAMS, unit, 0), 3);
        }
    }

    private static void parametersLastCallWins() {
        for (int last = 0; last <= 3; last++) {
            for (int passed = 0; passed <= 3; passed++) {
                FortranStatic f = fresh();
                f.parameters(2, 3 - last);
                f.statement(0, 0, FortranStatic.K_CALL, 2 + 4 * passed);
                for (int i = 0; i < passed; i++) {
                    f.operand(10000);
                }
                f.parameters(2, last);
                int want = passed == last ? FortranStatic.C_OK : FortranStatic.C_CALL;
                check.due("p = " + last + ", c = " + passed, f.compile(), want);
            }
        }
        for (int name = 0; name < 8; name++) {
            FortranStatic f = fresh();
            f.common(1, 0, name);
            f.parameters(1, 2);
            int want = name < 2 ? FortranStatic.C_DUMMY : FortranStatic.C_OK;
            check.due("name " + name + " with 2 parameters", f.compile(), want);
        }
    }

    private static void commonRanges() {
        FortranStatic f = fresh();
        for (int odd : ODD) {
            check.due("common of unit " + odd, f.common(odd, 0, 0), false);
            check.due("common of block " + odd, f.common(0, odd, 0), false);
            check.due("common of name " + odd, f.common(0, 0, odd), false);
        }
        check.due("common of unit 4", f.common(4, 0, 0), false);
        check.due("common of block 4", f.common(0, 4, 0), false);
        check.due("common of name 8", f.common(0, 0, 8), false);
        for (int unit = 0; unit < 4; unit++) {
            check.due("nothing recorded", f.query(FortranStatic.Q_COMMON, unit, 0), -1);
        }
        for (int block = 0; block < 4; block++) {
            check.due("common(3, " + block + ", 7)", f.common(3, block, 7), true);
            check.due("entry", f.query(FortranStatic.Q_COMMON, 3, block), 8 * block + 7);
        }
    }

    private static void commonHoldsEightInEachUnit() {
        FortranStatic f = fresh();
        for (int unit = 0; unit < 4; unit++) {
            for (int i = 0; i < 8; i++) {
                check.due("entry " + i, f.common(unit, i / 2, (i + unit) / 2), true);
            }
            check.due("a ninth entry", f.common(unit, 0, 0), false);
        }
        for (int unit = 0; unit < 4; unit++) {
            for (int i = 0; i < 8; i++) {
                check.due("entry " + i, f.query(FortranStatic.Q_COMMON, unit, i), 8 * (i / 2) + (i + unit) / 2);
            }
            check.due("no ninth entry", f.query(FortranStatic.Q_COMMON, unit, 8), -1);
        }
        check.due("duplicates are recorded, and have no layout", f.compile(), FortranStatic.C_CONFLICT);
    }

    private static void commonOffsets() {
        FortranStatic f = fresh();
        f.dimension(0, 1, 9);
        f.common(0, 2, 1);
        f.common(0, 1, 4);
        f.common(0, 2, 2);
        f.common(0, 1, 5);
        f.common(0, 2, 3);
        f.dimension(0, 1, 3);
        f.dimension(0, 2, 2);
        f.dimension(0, 4, 7);
        f.dimension(1, 6, 16);
        f.common(1, 2, 6);
        f.dimension(2, 6, 16);
        f.common(2, 1, 6);
        check.due("compile", f.compile(), FortranStatic.C_OK);
        for (int i = 1; i <= 16; i++) {
            check.due("first of block 2 at " + i, f.aliased(0, 10100, 1, 10600 + i), i == 1);
            check.due("second of block 2 at " + i, f.aliased(0, 10200, 1, 10600 + i), i == 4);
            check.due("third of block 2 at " + i, f.aliased(0, 10300, 1, 10600 + i), i == 6);
            check.due("first of block 1 at " + i, f.aliased(0, 10400, 2, 10600 + i), i == 1);
            check.due("second of block 1 at " + i, f.aliased(0, 10500, 2, 10600 + i), i == 8);
            check.due("other block at " + i, f.aliased(0, 10100, 2, 10600 + i), false);
        }
    }

    private static void equivalenceRanges() {
        FortranStatic f = fresh();
        for (int odd : ODD) {
            check.due("equivalence of unit " + odd, f.equivalence(odd, 10000, 10100), false);
            check.due("equivalence of first " + odd, f.equivalence(0, odd, 10100), false);
            check.due("equivalence of second " + odd, f.equivalence(0, 10100, odd), false);
        }
        check.due("equivalence of unit 4", f.equivalence(4, 10000, 10100), false);
        check.due("nothing recorded", f.query(FortranStatic.Q_EQUIV, 0, 0), -1);
        check.due("unit 3 is a unit", f.equivalence(3, 10716, 10000), true);
        check.due("its unit", f.query(FortranStatic.Q_EQUIV, 0, 0), 3);
        check.due("its first", f.query(FortranStatic.Q_EQUIV, 0, 1), 10716);
        check.due("its second", f.query(FortranStatic.Q_EQUIV, 0, 2), 10000);
    }

    private static void equivalenceCodes() {
        for (int code = -200; code < 31000; code++) {
            boolean fixed = code >= 10000 && code <= 10799 && code % 100 <= 16;
            FortranStatic f = fresh();
            check.due("first " + code, f.equivalence(0, code, 10000), fixed);
            check.due("second " + code, f.equivalence(0, 10000, code), fixed);
        }
    }

    private static void equivalenceHoldsSixteenInAll() {
        FortranStatic f = fresh();
        for (int i = 0; i < 16; i++) {
            check.due("equivalence " + i, f.equivalence(i % 4, 10000 + i, 10100 + i), true);
        }
        for (int unit = 0; unit < 4; unit++) {
            check.due("a seventeenth", f.equivalence(unit, 10000, 10000), false);
        }
        for (int i = 0; i < 16; i++) {
            check.due("unit of " + i, f.query(FortranStatic.Q_EQUIV, i, 0), i % 4);
            check.due("first of " + i, f.query(FortranStatic.Q_EQUIV, i, 1), 10000 + i);
            check.due("second of " + i, f.query(FortranStatic.Q_EQUIV, i, 2), 10100 + i);
        }
        check.due("no seventeenth", f.query(FortranStatic.Q_EQUIV, 16, 0), -1);
    }

    private static void allowedWhileAwaitingOperands() {
        FortranStatic f = fresh();
        f.statement(0, 0, FortranStatic.K_PRINT, 0);
        check.due("dimension", f.dimension(0, 0, 3), true);
        check.due("parameters", f.parameters(1, 1), true);
        check.due("common", f.common(0, 0, 0), true);
        check.due("equivalence", f.equivalence(0, 10000, 10100), true);
        check.due("still awaits", f.query(FortranStatic.Q_PENDING, 0, 0), 1);
        check.due("operand", f.operand(10003), true);
        check.due("compile", f.compile(), FortranStatic.C_OK);
    }

    private static void refusedOnceCompiled(boolean accepted) {
        FortranStatic f = fresh();
        if (!accepted) {
            check.add(f, 0, 0, FortranStatic.K_GOTO, 1, 1, 1);
        }
        check.due("compile", f.compile(), accepted ? FortranStatic.C_OK : FortranStatic.C_LABEL);
        check.due("dimension", f.dimension(0, 0, 3), false);
        check.due("parameters", f.parameters(1, 1), false);
        check.due("common", f.common(0, 0, 0), false);
        check.due("equivalence", f.equivalence(0, 10000, 10100), false);
        check.due("length", f.query(FortranStatic.Q_LENGTH, 0, 0), 1);
        check.due("p(1)", f.query(FortranStatic.Q_PARAMS, 1, 0), 0);
        check.due("entry", f.query(FortranStatic.Q_COMMON, 0, 0), -1);
        check.due("equivalence 0", f.query(FortranStatic.Q_EQUIV, 0, 0), -1);
    }
}
