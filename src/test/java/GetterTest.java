/** Promises 9 to 12: output, value, aliased and query. */
public final class GetterTest {
    private static final Check check = new Check();
    private static final int[] ODD = {Integer.MIN_VALUE, -100, -1, 100, Integer.MAX_VALUE};

    public static void main(String[] args) {
        outputs();
        values();
        valuesOfSharedCells();
        valuesOfDummies();
        aliases();
        aliasesNeedAnAcceptedProgram();
        queriesOfTheProgram();
        queriesIgnoreOtherArguments();
        queriesOfTheRun();
        extents();
        gettersChangeNothing();
        check.end();
    }

    private static FortranStatic fresh() {
        return new FortranStatic(16, 8);
    }

    private static void outputs() {
        FortranStatic f = fresh();
        check.add(f, 0, 0, FortranStatic.K_PRINT, 0, 11);
        check.add(f, 0, 0, FortranStatic.K_PRINT, 0, 22);
        check.add(f, 0, 0, FortranStatic.K_PRINT, 0, 33);
        check.due("output before a run", f.output(0), 0);
        f.compile();
        check.due("output after compile", f.output(0), 0);
        f.run(100);
        check.printed("whole", f, 11, 22, 33);
        for (int odd : ODD) {
            check.due("output(" + odd + ")", f.output(odd), 0);
        }
        f.run(1);
        check.printed("a shorter run", f, 11);
        for (int i = 1; i < 40; i++) {
            check.due("output(" + i + ")", f.output(i), 0);
        }
    }

    private static void values() {
        FortranStatic f = fresh();
        for (int unit = 0; unit < 4; unit++) {
            f.dimension(unit, 7, 3);
            check.add(f, unit, 0, FortranStatic.K_ASSIGN, 0, 10700, 10 * unit, 1);
            check.add(f, unit, 0, FortranStatic.K_ASSIGN, 0, 10703, 10 * unit, 3);
            if (unit < 3) {
                check.add(f, unit, 0, FortranStatic.K_CALL, unit + 1);
            }
        }
        f.compile();
        check.due("value before a run", f.value(0, 10700), 0);
        check.due("run", f.run(100), FortranStatic.RUN_DONE);
        for (int unit = 0; unit < 4; unit++) {
            check.due("element 0", f.value(unit, 10700), 10 * unit + 1);
            check.due("element 1", f.value(unit, 10701), 10 * unit + 1);
            check.due("element 2", f.value(unit, 10702), 0);
            check.due("element 3", f.value(unit, 10703), 10 * unit + 3);
            check.due("element 4 of 3", f.value(unit, 10704), 0);
            check.due("element 16 of 3", f.value(unit, 10716), 0);
            check.due("element 17", f.value(unit, 10717), 0);
            check.due("indexed", f.value(unit, 20707), 0);
            check.due("constant", f.value(unit, 700), 0);
            check.due("another name", f.value(unit, 10600), 0);
        }
        for (int odd : ODD) {
            check.due("value in unit " + odd, f.value(odd, 10700), 0);
            check.due("value of code " + odd, f.value(0, odd), 0);
        }
        check.due("value in unit 4", f.value(4, 10700), 0);
        check.due("value of code 10800", f.value(0, 10800), 0);
        check.due("value of code 11700", f.value(0, 11700), 0);
    }

    private static void valuesOfSharedCells() {
        FortranStatic f = fresh();
        f.dimension(0, 1, 4);
        f.dimension(0, 2, 4);
        f.equivalence(0, 10103, 10201);
        f.common(0, 1, 1);
        f.dimension(3, 5, 6);
        f.common(3, 1, 5);
        for (int i = 1; i <= 4; i++) {
            check.add(f, 0, 0, FortranStatic.K_ASSIGN, 0, 10100 + i, 10, i);
        }
        check.add(f, 0, 0, FortranStatic.K_ASSIGN, 0, 10204, 16, 0);
        check.due("compile", f.compile(), FortranStatic.C_OK);
        check.due("run", f.run(100), FortranStatic.RUN_DONE);
        int[] whole = {11, 12, 13, 14, 0, 16};
        for (int i = 1; i <= 6; i++) {
            check.due("by COMMON " + i, f.value(3, 10500 + i), whole[i - 1]);
        }
        for (int i = 1; i <= 4; i++) {
            check.due("by EQUIVALENCE " + i, f.value(0, 10200 + i), whole[i + 1]);
        }
    }

    private static void valuesOfDummies() {
        FortranStatic f = fresh();
        f.parameters(1, 1);
        check.add(f, 0, 0, FortranStatic.K_CALL, 5, 10400);
        check.add(f, 1, 0, FortranStatic.K_ASSIGN, 0, 10000, 5, 0);
        check.add(f, 1, 0, FortranStatic.K_ASSIGN, 0, 10100, 6, 0);
        check.add(f, 1, 0, FortranStatic.K_STOP, 0);
        f.compile();
        check.due("run", f.run(100), FortranStatic.RUN_DONE);
        check.due("a dummy", f.value(1, 10000), 0);
        check.due("a dummy with 1", f.value(1, 10001), 0);
        check.due("no dummy", f.value(1, 10100), 6);
        check.due("what it was bound to", f.value(0, 10400), 5);
        check.due("a dummy is no alias", f.aliased(1, 10000, 0, 10400), false);
        check.due("a dummy is no alias, turned", f.aliased(0, 10400, 1, 10000), false);
        check.due("nor of itself", f.aliased(1, 10000, 1, 10000), false);
    }

    private static void aliases() {
        FortranStatic f = fresh();
        f.dimension(0, 1, 4);
        f.dimension(0, 2, 3);
        f.equivalence(0, 10102, 10200);
        check.due("before compile", f.aliased(0, 10102, 0, 10201), false);
        check.due("compile", f.compile(), FortranStatic.C_OK);
        for (int run = 0; run < 2; run++) {
            for (int i = 0; i <= 16; i++) {
                for (int j = 0; j <= 16; j++) {
                    int first = i == 0 ? 1 : i;
                    int second = j == 0 ? 1 : j;
                    boolean same = first <= 4 && second <= 3 && first == second + 1;
                    check.due("n1(" + i + ") n2(" + j + ")", f.aliased(0, 10100 + i, 0, 10200 + j), same);
                    check.due("n2(" + j + ") n1(" + i + ")", f.aliased(0, 10200 + j, 0, 10100 + i), same);
                    check.due("n1(" + i + ") n1(" + j + ")", f.aliased(0, 10100 + i, 0, 10100 + j), first == second && first <= 4);
                }
            }
            f.run(10);
        }
        check.due("not in another unit", f.aliased(0, 10102, 1, 10201), false);
        check.due("one name in two units", f.aliased(0, 10300, 1, 10300), false);
        check.due("indexed", f.aliased(0, 20101, 0, 20101), false);
        check.due("constants", f.aliased(0, 100, 0, 100), false);
        check.due("no name", f.aliased(0, 10800, 0, 10800), false);
        for (int odd : ODD) {
            check.due("code " + odd, f.aliased(0, odd, 0, odd), false);
            check.due("unit " + odd, f.aliased(odd, 10100, odd, 10100), false);
            check.due("first unit " + odd, f.aliased(odd, 10100, 0, 10100), false);
            check.due("second unit " + odd, f.aliased(0, 10100, odd, 10100), false);
        }
        check.due("unit 4", f.aliased(4, 10100, 4, 10100), false);
        check.due("unit 3", f.aliased(3, 10100, 3, 10101), true);
    }

    private static void aliasesNeedAnAcceptedProgram() {
        FortranStatic f = fresh();
        f.equivalence(0, 10100, 10200);
        check.add(f, 0, 0, FortranStatic.K_CALL, 5, 10100);
        check.due("compile", f.compile(), FortranStatic.C_CALL);
        check.due("aliased", f.aliased(0, 10100, 0, 10200), false);
        check.due("aliased with itself", f.aliased(0, 10100, 0, 10100), false);
        check.due("extent", f.query(FortranStatic.Q_EXTENT, 0, 0), -1);
        check.due("value", f.value(0, 10100), 0);
    }

    private static void queriesOfTheProgram() {
        FortranStatic f = fresh();
        f.dimension(3, 7, 9);
        f.parameters(3, 2);
        f.common(3, 2, 6);
        f.equivalence(3, 10716, 10300);
        check.add(f, 3, 44, FortranStatic.K_IF, 0, 1, 10700, 3, 4, 5);
        f.statement(2, 99, FortranStatic.K_GOTO, 3);
        f.operand(20301);
        int[][] statements = {
            {3, 44, FortranStatic.K_IF, 0, 1, 10700, 3, 4, 5, -1},
            {2, 99, FortranStatic.K_GOTO, 3, 20301, -1, -1, -1, -1, -1},
        };
        for (int s = 0; s < 2; s++) {
            for (int field = 0; field < 10; field++) {
                check.due("Q_STMT " + s + " " + field, f.query(FortranStatic.Q_STMT, s, field), statements[s][field]);
            }
        }
        check.due("Q_PENDING", f.query(FortranStatic.Q_PENDING, 0, 0), 3);
        check.due("Q_LENGTH", f.query(FortranStatic.Q_LENGTH, 3, 7), 9);
        check.due("Q_PARAMS", f.query(FortranStatic.Q_PARAMS, 3, 0), 2);
        check.due("Q_COMMON", f.query(FortranStatic.Q_COMMON, 3, 0), 22);
        check.due("Q_EQUIV unit", f.query(FortranStatic.Q_EQUIV, 0, 0), 3);
        check.due("Q_EQUIV a", f.query(FortranStatic.Q_EQUIV, 0, 1), 10716);
        check.due("Q_EQUIV b", f.query(FortranStatic.Q_EQUIV, 0, 2), 10300);
        int[][] wrong = {
            {1, 4, 0}, {1, 0, 8}, {2, 4, 0}, {3, 4, 0}, {3, 3, 1}, {3, 0, 0}, {4, 1, 0}, {4, 0, 3},
            {5, 2, 0}, {5, 0, 9}, {8, 4, 0}, {8, 0, 0}, {0, 0, 0}, {12, 0, 0}, {-1, 0, 0},
        };
        for (int[] q : wrong) {
            check.due("query(" + q[0] + ", " + q[1] + ", " + q[2] + ")", f.query(q[0], q[1], q[2]), -1);
        }
        for (int odd : ODD) {
            check.due("kind " + odd, f.query(odd, 0, 0), -1);
            for (int kind = 1; kind <= 5; kind++) {
                check.due("kind " + kind + " a " + odd, f.query(kind, odd, 0), -1);
                check.due("kind " + kind + " b " + odd, f.query(kind, kind < 4 ? 3 : 0, odd), kind == 2 ? 2 : -1);
            }
            check.due("Q_EXTENT " + odd, f.query(FortranStatic.Q_EXTENT, odd, 0), -1);
        }
        f.compile();
        check.due("Q_PENDING after compile", f.query(FortranStatic.Q_PENDING, 0, 0), 3);
        check.due("Q_COMPILED", f.query(FortranStatic.Q_COMPILED, 0, 0), FortranStatic.C_INCOMPLETE);
        check.due("Q_STMT after compile", f.query(FortranStatic.Q_STMT, 1, 4), 20301);
    }

    private static void queriesIgnoreOtherArguments() {
        FortranStatic f = fresh();
        f.common(0, 1, 0);
        f.dimension(0, 0, 5);
        check.add(f, 0, 0, FortranStatic.K_PRINT, 0, 10005);
        f.compile();
        f.run(10);
        for (int odd : ODD) {
            check.due("Q_PARAMS", f.query(FortranStatic.Q_PARAMS, 1, odd), 0);
            check.due("Q_PENDING", f.query(FortranStatic.Q_PENDING, odd, odd), 0);
            check.due("Q_COMPILED", f.query(FortranStatic.Q_COMPILED, odd, odd), FortranStatic.C_OK);
            check.due("Q_EXTENT", f.query(FortranStatic.Q_EXTENT, 1, odd), 5);
            check.due("Q_RUN", f.query(FortranStatic.Q_RUN, odd, odd), FortranStatic.RUN_DONE);
            check.due("Q_STEPS", f.query(FortranStatic.Q_STEPS, odd, odd), 1);
            check.due("Q_OUTPUTS", f.query(FortranStatic.Q_OUTPUTS, odd, odd), 1);
        }
    }

    private static void queriesOfTheRun() {
        FortranStatic f = fresh();
        check.add(f, 0, 0, FortranStatic.K_PRINT, 0, 5);
        check.add(f, 0, 0, FortranStatic.K_PRINT, 0, 6);
        f.run(100);
        check.due("Q_RUN of a refused run", f.query(FortranStatic.Q_RUN, 0, 0), 0);
        f.compile();
        check.due("Q_RUN before a run", f.query(FortranStatic.Q_RUN, 0, 0), 0);
        check.due("Q_STEPS before a run", f.query(FortranStatic.Q_STEPS, 0, 0), 0);
        check.due("Q_OUTPUTS before a run", f.query(FortranStatic.Q_OUTPUTS, 0, 0), 0);
        f.run(100);
        check.due("Q_RUN", f.query(FortranStatic.Q_RUN, 0, 0), FortranStatic.RUN_DONE);
        check.due("Q_STEPS", f.query(FortranStatic.Q_STEPS, 0, 0), 2);
        check.due("Q_OUTPUTS", f.query(FortranStatic.Q_OUTPUTS, 0, 0), 2);
        f.run(1);
        check.due("Q_RUN, last", f.query(FortranStatic.Q_RUN, 0, 0), FortranStatic.RUN_STEPS);
        check.due("Q_STEPS, last", f.query(FortranStatic.Q_STEPS, 0, 0), 1);
        check.due("Q_OUTPUTS, last", f.query(FortranStatic.Q_OUTPUTS, 0, 0), 1);
    }

    private static void extents() {
        for (int block = 0; block < 4; block++) {
            FortranStatic f = fresh();
            for (int name = 0; name < 8; name++) {
                f.dimension(1, name, 16);
                f.common(1, block, name);
            }
            f.dimension(0, 3, 2);
            f.common(0, block, 3);
            f.dimension(2, 0, 16);
            check.due("compile", f.compile(), FortranStatic.C_OK);
            for (int other = 0; other < 4; other++) {
                check.due("extent of " + other, f.query(FortranStatic.Q_EXTENT, other, 0), other == block ? 128 : 0);
            }
        }
        FortranStatic f = fresh();
        f.dimension(0, 1, 3);
        f.common(0, 2, 0);
        f.common(0, 2, 1);
        f.dimension(0, 2, 16);
        f.equivalence(0, 10201, 10103);
        check.due("compile", f.compile(), FortranStatic.C_OK);
        check.due("extent by equivalence", f.query(FortranStatic.Q_EXTENT, 2, 0), 19);
    }

    private static void gettersChangeNothing() {
        FortranStatic f = fresh();
        f.statement(0, 0, FortranStatic.K_PRINT, 0);
        for (int kind = -1; kind < 14; kind++) {
            for (int a = -1; a < 10; a++) {
                for (int b = -1; b < 10; b++) {
                    f.query(kind, a, b);
                }
            }
        }
        f.output(0);
        f.value(0, 10000);
        f.aliased(0, 10000, 0, 10000);
        check.due("the operand is still awaited", f.operand(10000), true);
        check.due("still open", f.dimension(0, 0, 2), true);
        check.runs("then", f, 10, FortranStatic.RUN_DONE, 1);
    }
}
