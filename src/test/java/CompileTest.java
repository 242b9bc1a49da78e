/** Promise 7: compile, each answer, their order, the freezing and the layout. */
public final class CompileTest {
    private static final Check check = new Check();
    private static final int ASSIGN = FortranStatic.K_ASSIGN;
    private static final int IF = FortranStatic.K_IF;
    private static final int GOTO = FortranStatic.K_GOTO;
    private static final int DO = FortranStatic.K_DO;
    private static final int CALL = FortranStatic.K_CALL;
    private static final int PRINT = FortranStatic.K_PRINT;
    private static final int CONTINUE = FortranStatic.K_CONTINUE;
    private static final int RETURN = FortranStatic.K_RETURN;
    private static final int STOP = FortranStatic.K_STOP;

    public static void main(String[] args) {
        firstFailingCheckAnswers();
        firstAnswerStays();
        dummies();
        indexes();
        indexesOfEveryPlace();
        conflicts();
        backward();
        repeatedLabels();
        wrongLabels();
        loopEnds();
        calls();
        chainsOfEquivalence();
        chainsThroughBlocks();
        everyPairOfCells();
        fullPrograms();
        check.end();
    }

    private static FortranStatic fresh() {
        return new FortranStatic(64, 8);
    }

    private static void answers(String what, FortranStatic f, int want) {
        check.due(what, f.compile(), want);
        check.due(what + ": Q_COMPILED", f.query(FortranStatic.Q_COMPILED, 0, 0), want);
    }

    /** Bit k of faults puts in what makes the check of answer 2 + k fail. */
    private static void firstFailingCheckAnswers() {
        for (int faults = 0; faults < 128; faults++) {
            FortranStatic f = fresh();
            f.dimension(0, 1, 4);
            f.common(0, 0, 1);
            if ((faults & 64) != 0) {
                check.add(f, 0, 0, CALL, 1 + 4, 10000);
            }
            if ((faults & 32) != 0) {
                check.add(f, 0, 0, GOTO, 1, 1, 77);
            }
            if ((faults & 16) != 0) {
                f.dimension(0, 2, 4);
                f.equivalence(0, 10100, 10202);
            }
            if ((faults & 8) != 0) {
                f.equivalence(0, 10101, 10102);
            }
            if ((faults & 4) != 0) {
                check.add(f, 0, 0, PRINT, 0, 10302);
            }
            if ((faults & 2) != 0) {
                f.parameters(2, 1);
                f.common(2, 1, 0);
            }
            if ((faults & 1) != 0) {
                f.statement(0, 0, PRINT, 0);
            }
            int want = faults == 0 ? FortranStatic.C_OK : 2 + Integer.numberOfTrailingZeros(faults);
            answers("faults " + faults, f, want);
        }
    }

    private static void firstAnswerStays() {
        FortranStatic f = fresh();
        check.add(f, 0, 0, GOTO, 1, 1, 5);
        answers("first", f, FortranStatic.C_LABEL);
        check.due("the mending statement", f.statement(0, 5, CONTINUE, 0), false);
        check.due("operand", f.operand(1), false);
        check.due("dimension", f.dimension(0, 0, 2), false);
        check.due("parameters", f.parameters(1, 1), false);
        check.due("common", f.common(0, 0, 0), false);
        check.due("equivalence", f.equivalence(0, 10000, 10100), false);
        answers("second", f, FortranStatic.C_LABEL);
        check.due("run", f.run(10), FortranStatic.RUN_REFUSED);
        answers("third", f, FortranStatic.C_LABEL);

        f = fresh();
        answers("good", f, FortranStatic.C_OK);
        f.run(10);
        answers("good again", f, FortranStatic.C_OK);
    }

    private static void dummies() {
        for (int unit = 1; unit < 4; unit++) {
            for (int name = 0; name < 8; name++) {
                boolean dummy = name < unit;
                int want = dummy ? FortranStatic.C_DUMMY : FortranStatic.C_OK;
                FortranStatic f = fresh();
                f.parameters(unit, unit);
                f.common(unit, 3, name);
                answers("common of " + unit + "," + name, f, want);
                f = fresh();
                f.parameters(unit, unit);
                f.equivalence(unit, 10000 + 100 * name, 10700);
                answers("equivalence of first " + unit + "," + name, f, want);
                f = fresh();
                f.parameters(unit, unit);
                f.equivalence(unit, 10701, 10000 + 100 * name);
                answers("equivalence of second " + unit + "," + name, f, want);
                f = fresh();
                f.parameters(unit, unit);
                f.dimension(unit, name, 2);
                answers("length of " + unit + "," + name, f, want);
            }
        }
        FortranStatic f = fresh();
        f.parameters(1, 3);
        f.common(0, 0, 0);
        f.common(2, 0, 0);
        f.equivalence(0, 10000, 10200);
        answers("the same names in other units", f, FortranStatic.C_OK);
        f = fresh();
        f.parameters(1, 1);
        f.equivalence(1, 10000, 10000);
        answers("a dummy with itself", f, FortranStatic.C_DUMMY);
    }

    private static void indexes() {
        for (int length = 1; length <= 16; length++) {
            for (int i = 0; i <= 16; i++) {
                int want = i > length ? FortranStatic.C_INDEX : FortranStatic.C_OK;
                String what = "element " + i + " of " + length;
                FortranStatic f = fresh();
                f.dimension(3, 2, length);
                check.add(f, 3, 0, PRINT, 0, 10200 + i);
                answers(what + " in a statement", f, want);
                f = fresh();
                f.dimension(3, 2, length);
                f.equivalence(3, 10200 + i, 10300);
                answers(what + " first", f, want);
                f = fresh();
                f.dimension(3, 2, length);
                f.equivalence(3, 10300, 10200 + i);
                answers(what + " second", f, want);
            }
        }
        FortranStatic f = fresh();
        f.parameters(1, 1);
        check.add(f, 1, 0, PRINT, 0, 10000);
        check.add(f, 1, 0, PRINT, 0, 10001);
        answers("element 1 of a dummy", f, FortranStatic.C_OK);
        f = fresh();
        f.parameters(1, 1);
        check.add(f, 1, 0, PRINT, 0, 10002);
        answers("element 2 of a dummy", f, FortranStatic.C_INDEX);
        f = fresh();
        f.dimension(0, 0, 2);
        check.add(f, 1, 0, PRINT, 0, 10002);
        answers("the length of another unit", f, FortranStatic.C_INDEX);
        f = fresh();
        f.dimension(1, 0, 5);
        check.add(f, 0, 1, IF, 0, 1, 1, 1, 1, 1);
        check.add(f, 1, 0, ASSIGN, 0, 10005, 10005, 10005);
        check.add(f, 0, 0, PRINT, 0, 10000);
        answers("the lengths of two units", f, FortranStatic.C_OK);
        f = fresh();
        check.add(f, 0, 0, PRINT, 0, 20107);
        check.add(f, 0, 0, PRINT, 0, 9999);
        answers("indexed codes and constants are not judged", f, FortranStatic.C_OK);
    }

    private static void indexesOfEveryPlace() {
        int[] kinds = {ASSIGN, ASSIGN, ASSIGN, IF, IF, GOTO, DO, DO, DO, DO, CALL, CALL, CALL, PRINT};
        int[] places = {0, 1, 2, 0, 1, 0, 1, 2, 3, 4, 0, 1, 2, 0};
        for (int k = 0; k < kinds.length; k++) {
            for (int i = 2; i <= 3; i++) {
                FortranStatic f = fresh();
                f.dimension(0, 5, 2);
                f.parameters(3, 3);
                int kind = kinds[k];
                f.statement(0, 0, kind, kind == GOTO ? 1 : kind == CALL ? 15 : 0);
                int count = f.query(FortranStatic.Q_PENDING, 0, 0);
                for (int p = 0; p < count; p++) {
                    boolean isLabel = kind == IF && p >= 2 || kind == GOTO && p == 1 || kind == DO && p == 0;
                    check.due("operand", f.operand(p == places[k] ? 10500 + i : isLabel ? 9 : 10500), true);
                }
                check.add(f, 0, 9, CONTINUE, 0);
                answers("kind " + kind + " place " + places[k], f, i > 2 ? FortranStatic.C_INDEX : FortranStatic.C_OK);
            }
        }
    }

    private static void conflicts() {
        FortranStatic f = fresh();
        f.common(0, 0, 1);
        f.common(0, 0, 1);
        answers("one name twice in a block", f, FortranStatic.C_CONFLICT);
        f = fresh();
        f.common(0, 0, 1);
        f.common(0, 3, 1);
        answers("one name in two blocks", f, FortranStatic.C_CONFLICT);
        for (int one = 0; one < 4; one++) {
            for (int two = 0; two < 4; two++) {
                if (one != two) {
                    f = fresh();
                    f.common(0, one, 1);
                    f.common(0, two, 2);
                    f.equivalence(0, 10100, 10200);
                    answers("blocks " + one + " and " + two + " joined by an equivalence", f, FortranStatic.C_CONFLICT);
                }
            }
        }
        f = fresh();
        f.common(0, 0, 1);
        f.common(1, 0, 1);
        f.common(1, 3, 2);
        f.equivalence(1, 10200, 10300);
        f.equivalence(1, 10300, 10100);
        answers("two blocks joined by a chain", f, FortranStatic.C_CONFLICT);
        f = fresh();
        f.dimension(0, 1, 4);
        f.equivalence(0, 10101, 10102);
        answers("two elements of one name", f, FortranStatic.C_CONFLICT);
        f = fresh();
        f.dimension(0, 1, 4);
        f.equivalence(0, 10103, 10103);
        f.equivalence(0, 10100, 10101);
        answers("an element with itself", f, FortranStatic.C_OK);
        f = fresh();
        f.dimension(0, 1, 4);
        f.dimension(0, 2, 4);
        f.equivalence(0, 10101, 10202);
        f.equivalence(0, 10202, 10101);
        f.equivalence(0, 10103, 10204);
        f.equivalence(0, 10102, 10203);
        answers("the same said again", f, FortranStatic.C_OK);
        f = fresh();
        f.dimension(0, 1, 4);
        f.dimension(0, 2, 4);
        f.equivalence(0, 10101, 10202);
        f.equivalence(0, 10102, 10202);
        answers("two that differ", f, FortranStatic.C_CONFLICT);
        f = fresh();
        f.dimension(0, 1, 4);
        f.common(0, 0, 1);
        f.common(0, 0, 2);
        f.equivalence(0, 10104, 10200);
        answers("against the order in a block", f, FortranStatic.C_CONFLICT);
        f = fresh();
        f.common(0, 0, 1);
        f.common(1, 1, 1);
        f.common(2, 2, 1);
        f.common(3, 3, 1);
        answers("four blocks", f, FortranStatic.C_OK);
    }

    private static void backward() {
        for (int i = 1; i <= 4; i++) {
            for (int j = 1; j <= 4; j++) {
                for (int unit = 0; unit < 4; unit++) {
                    backwardByOne(unit, 3 - unit, 0, 7, i, j);
                    backwardByOne(unit, unit, 7, 0, i, j);
                    backwardByOne(unit, 0, 5, 6, i, j);
                }
            }
        }
        FortranStatic f = fresh();
        f.dimension(0, 1, 4);
        f.dimension(0, 2, 4);
        f.equivalence(0, 10101, 10204);
        answers("before no block", f, FortranStatic.C_OK);
        f = fresh();
        f.dimension(0, 1, 3);
        f.dimension(0, 3, 4);
        f.common(0, 0, 1);
        f.common(0, 0, 2);
        f.equivalence(0, 10200, 10304);
        answers("back to the start of the block", f, FortranStatic.C_OK);
        f = fresh();
        f.dimension(0, 1, 3);
        f.dimension(0, 3, 5);
        f.common(0, 0, 1);
        f.common(0, 0, 2);
        f.equivalence(0, 10200, 10305);
        answers("one before the start of the block", f, FortranStatic.C_BACKWARD);
    }

    /** One name of length 4 is in the block, another is tied to it by both ways of saying so. */
    private static void backwardByOne(int unit, int block, int name, int other, int i, int j) {
        int inBlock = 10000 + 100 * name + i;
        int tied = 10000 + 100 * other + j;
        for (int turned = 0; turned < 2; turned++) {
            FortranStatic f = fresh();
            f.dimension(unit, name, 4);
            f.dimension(unit, other, 4);
            f.equivalence(unit, turned == 0 ? inBlock : tied, turned == 0 ? tied : inBlock);
            f.common(unit, block, name);
            String what = "unit " + unit + ", " + inBlock + " = " + tied;
            answers(what, f, j > i ? FortranStatic.C_BACKWARD : FortranStatic.C_OK);
            for (int b = 0; b < 4; b++) {
                int extent = j > i ? -1 : b == block ? 4 + i - j : 0;
                check.due(what + ": extent of " + b, f.query(FortranStatic.Q_EXTENT, b, 0), extent);
            }
        }
    }

    private static void repeatedLabels() {
        for (int label = 0; label <= 99; label += 33) {
            FortranStatic f = fresh();
            check.add(f, 0, label, CONTINUE, 0);
            check.add(f, 1, 0, CONTINUE, 0);
            check.add(f, 0, label, STOP, 0);
            answers("label " + label + " twice", f, label == 0 ? FortranStatic.C_OK : FortranStatic.C_LABEL);
        }
        FortranStatic f = fresh();
        for (int unit = 0; unit < 4; unit++) {
            check.add(f, unit, 1, CONTINUE, 0);
        }
        answers("one label in each unit", f, FortranStatic.C_OK);
        f = fresh();
        check.add(f, 3, 8, CONTINUE, 0);
        check.add(f, 3, 8, CONTINUE, 0);
        answers("twice in a subroutine", f, FortranStatic.C_LABEL);
    }

    private static void wrongLabels() {
        int[] wrong = {0, 2, 98, 100, 101, 199, 9999};
        int[] right = {1, 99};
        for (int place = 0; place < 8; place++) {
            for (int label : wrong) {
                answers("label " + label + " in place " + place, labelled(place, label), FortranStatic.C_LABEL);
            }
            for (int label : right) {
                answers("label " + label + " in place " + place, labelled(place, label), FortranStatic.C_OK);
            }
        }
        FortranStatic f = fresh();
        check.add(f, 0, 1, GOTO, 1, 1, 1);
        check.add(f, 1, 0, GOTO, 1, 1, 1);
        answers("a label of another unit", f, FortranStatic.C_LABEL);
    }

    /** Places 0 to 2 are those of an IF, 3 to 6 those of a GOTO, 7 is that of a DO. */
    private static FortranStatic labelled(int place, int label) {
        FortranStatic f = fresh();
        check.add(f, 1, 2, CONTINUE, 0);
        check.add(f, 0, 0, CONTINUE, 0);
        if (place < 3) {
            check.add(f, 0, 0, IF, 0, 0, 0, place == 0 ? label : 1, place == 1 ? label : 1, place == 2 ? label : 1);
        } else if (place < 7) {
            check.add(f, 0, 0, GOTO, 4, 0, place == 3 ? label : 1, place == 4 ? label : 1,
                place == 5 ? label : 1, place == 6 ? label : 1);
        } else {
            check.add(f, 0, 0, DO, 0, label, 10000, 1, 1, 1);
        }
        check.add(f, 0, 1, CONTINUE, 0);
        check.add(f, 0, 99, CONTINUE, 0);
        return f;
    }

    private static void loopEnds() {
        for (int kind = 1; kind <= 9; kind++) {
            boolean allowed = kind == ASSIGN || kind == CALL || kind == PRINT || kind == CONTINUE;
            FortranStatic f = fresh();
            check.add(f, 0, 0, DO, 0, 5, 10000, 1, 1, 1);
            addPlain(f, 5, kind);
            check.add(f, 0, 6, CONTINUE, 0);
            answers("a DO that ends at kind " + kind, f, allowed ? FortranStatic.C_OK : FortranStatic.C_LABEL);
            f = fresh();
            addPlain(f, 5, kind);
            check.add(f, 0, 0, DO, 0, 5, 10000, 1, 1, 1);
            check.add(f, 0, 6, CONTINUE, 0);
            answers("a DO after its end of kind " + kind, f, FortranStatic.C_LABEL);
        }
        FortranStatic f = fresh();
        check.add(f, 0, 5, DO, 0, 5, 10000, 1, 1, 1);
        answers("a DO that ends at itself", f, FortranStatic.C_LABEL);
    }

    private static void addPlain(FortranStatic f, int label, int kind) {
        int[] none = {};
        int[][] codes = {none, {10000, 1, 1}, {1, 1, 6, 6, 6}, {1, 6}, {6, 10100, 1, 1, 1}, none, {1}, none, none, none};
        check.add(f, 0, label, kind, kind == GOTO || kind == CALL ? 1 : 0, codes[kind]);
    }

    private static void calls() {
        int[] cells = {10100, 10200, 10300};
        for (int s = 1; s <= 3; s++) {
            for (int c = 0; c <= 3; c++) {
                for (int p = 0; p <= 3; p++) {
                    for (int unit = 0; unit < 4; unit++) {
                        FortranStatic f = fresh();
                        f.parameters(1, 3 - p);
                        f.parameters(2, 3 - p);
                        f.parameters(3, 3 - p);
                        f.parameters(s, p);
                        f.statement(unit, 0, CALL, s + 4 * c);
                        for (int i = 0; i < c; i++) {
                            f.operand(cells[i]);
                        }
                        answers("CALL of " + s + " with " + c + " for " + p, f, c == p ? FortranStatic.C_OK : FortranStatic.C_CALL);
                    }
                }
            }
        }
    }

    private static void chainsOfEquivalence() {
        FortranStatic f = fresh();
        for (int name = 0; name < 8; name++) {
            f.dimension(1, name, 16);
        }
        // Each name starts 15 cells after the one before, said in an order that joins chains late.
        int[] order = {0, 6, 2, 4, 5, 1, 3};
        for (int name : order) {
            check.due("equivalence", f.equivalence(1, 10016 + 100 * name, 10101 + 100 * name), true);
        }
        answers("a long chain", f, FortranStatic.C_OK);
        for (int n = 0; n < 8; n++) {
            for (int m = 0; m < 8; m++) {
                for (int i = 1; i <= 16; i++) {
                    for (int j = 1; j <= 16; j++) {
                        boolean same = 15 * n + i == 15 * m + j;
                        check.due("n" + n + "(" + i + ") and n" + m + "(" + j + ")",
                            f.aliased(1, 10000 + 100 * n + i, 1, 10000 + 100 * m + j), same);
                    }
                }
            }
            check.due("the same name of another unit", f.aliased(0, 10000 + 100 * n, 1, 10000 + 100 * n), false);
        }
        for (int block = 0; block < 4; block++) {
            check.due("extent", f.query(FortranStatic.Q_EXTENT, block, 0), 0);
        }
    }

    /** Tied names beside free ones of full length: no cell may be taken for one of a free name. */
    private static void everyPairOfCells() {
        FortranStatic f = fresh();
        // Of unit 1: names 1 and 4 start at 100, 2 at 99, 6 at 115, 7 at 87; 0, 3 and 5 are free.
        int[] lengths = {16, 1, 2, 16, 16, 16, 16, 14};
        int[] starts = {0, 100, 99, 1000, 100, 2000, 115, 87};
        for (int name = 0; name < 8; name++) {
            f.dimension(1, name, lengths[name]);
        }
        f.equivalence(1, 10101, 10202);
        f.equivalence(1, 10416, 10601);
        f.equivalence(1, 10714, 10401);
        f.equivalence(1, 10200, 10713);
        answers("free names between tied ones", f, FortranStatic.C_OK);
        for (int n = 0; n < 8; n++) {
            for (int i = 1; i <= lengths[n]; i++) {
                for (int m = 0; m < 8; m++) {
                    for (int j = 1; j <= lengths[m]; j++) {
                        int a = 10000 + 100 * n + i;
                        int b = 10000 + 100 * m + j;
                        check.due(a + " and " + b, f.aliased(1, a, 1, b), starts[n] + i == starts[m] + j);
                    }
                }
            }
        }
    }

    /** Every table is filled to its end, with the widest statements, and with all of them used. */
    private static void fullPrograms() {
        for (int last = 0; last < 4; last++) {
            FortranStatic f = new FortranStatic(64, 32);
            for (int unit = 0; unit < 4; unit++) {
                for (int name = 0; name < 8; name++) {
                    f.dimension(unit, name, 16);
                    check.due("common", f.common(unit, name / 2, name), true);
                }
            }
            for (int i = 0; i < 16; i++) {
                check.due("equivalence", f.equivalence(last, 10000 + 100 * (i % 8) + i, 10000 + 100 * (i % 8) + i), true);
            }
            for (int i = 0; i < 63; i++) {
                check.add(f, 0, i + 1, IF, 0, 10716, 10716, 1, i + 2, 1);
            }
            int label = last == 0 ? 64 : 63;
            if (last == 0) {
                check.add(f, last, label, IF, 0, 10716, 10716, 1, 1, 1);
                answers("64 statements", f, FortranStatic.C_OK);
                check.due("run", f.run(5000), FortranStatic.RUN_STEPS);
            } else {
                check.add(f, last, label, PRINT, 0, 10716);
                answers("a last jump to no label of the unit", f, FortranStatic.C_LABEL);
            }
        }
        FortranStatic f = new FortranStatic(64, 32);
        for (int i = 0; i < 64; i++) {
            check.add(f, 0, i + 1, i % 2 == 0 ? PRINT : CONTINUE, 0, i % 2 == 0 ? new int[] {i} : new int[0]);
        }
        answers("64 plain statements", f, FortranStatic.C_OK);
        check.due("run to the end", f.run(64), FortranStatic.RUN_DONE);
        check.due("all printed", f.query(FortranStatic.Q_OUTPUTS, 0, 0), 32);
        check.due("the last printed", f.output(31), 62);
    }

    private static void chainsThroughBlocks() {
        FortranStatic f = fresh();
        f.dimension(0, 1, 2);
        f.common(0, 3, 0);
        f.common(0, 3, 1);
        f.dimension(2, 4, 3);
        f.common(2, 3, 4);
        f.dimension(2, 5, 5);
        f.equivalence(2, 10502, 10403);
        f.dimension(0, 6, 3);
        f.equivalence(0, 10603, 10102);
        answers("through a block", f, FortranStatic.C_OK);
        check.due("extent", f.query(FortranStatic.Q_EXTENT, 3, 0), 6);
        check.due("extent of another", f.query(FortranStatic.Q_EXTENT, 2, 0), 0);
        int[] at = {0, 1, 2, 1, 5, 0, 2};
        int[] units = {0, 0, 0, 2, 2, 0, 0};
        int[] codes = {10000, 10101, 10102, 10501, 10505, 10601, 10603};
        for (int a = 0; a < at.length; a++) {
            for (int b = 0; b < at.length; b++) {
                check.due(codes[a] + " and " + codes[b], f.aliased(units[a], codes[a], units[b], codes[b]), at[a] == at[b]);
            }
        }
    }
}
