/** Sentences of promises 2 to 5 that name a boundary case. */
public final class BoundsOfDeclarationsTest extends Bounds {
    public static void main(String[] args) {
        new BoundsOfDeclarationsTest().look(args);
    }

    @Override
    void sentences() {
        holds("2.1", "Declarations may come in any order, interleaved with statements", this::anyOrder);
        holds("2.2", "also while a statement awaits operands.", this::whileAwaiting);
        holds("2.3", "Each declaration is refused (answers false, changes nothing) once compile() has been called", this::onceCompiled);
        holds("2.4", "or when an argument is out of its range.", this::outOfRange);
        holds("2.5", "sets the length of name (0..7) of unit (0..3) to length (1..16) and answers true", this::dimensionSets);
        holds("2.6", "the last call wins.", this::lastDimensionWins);
        holds("2.7", "It is accepted for a name that is or will be a dummy", this::dimensionOfDummy);
        holds("2.8", "if at compile time such a name is a dummy and its last set length is greater than 1, the C_DUMMY check fails", this::longDummy);
        holds("2.9", "(Promise 7, after the C_INCOMPLETE check)", this::longDummyAfterIncomplete);
        holds("3.1", "sets p(unit) = count for unit 1..3 and count 0..3 and answers true", this::parametersSets);
        holds("3.2", "the last call wins.", this::lastParametersWins);
        holds("3.3", "Unit 0 and any other unit, or a count outside 0..3, is refused.", this::parametersOutOfRange);
        holds("3.4", "It is refused once compile() has been called.", this::parametersOnceCompiled);
        holds("3.5", "Which names are dummies follows from p(u) as it stands when compile() is called.", this::dummiesAtCompile);
        holds("4.1", "appends the entry (block, name) to the COMMON list of unit (0..3), with block 0..3 and name 0..7, and answers true.", this::commonAppends);
        holds("4.2", "It is also refused when that unit's list already holds 8 entries", this::fullList);
        holds("4.3", "and once compile() has been called.", this::commonOnceCompiled);
        holds("4.4", "Duplicates are recorded.", this::duplicates);
        holds("4.5", "The OFFSET of an entry is the sum of the lengths (as at compile time)", this::offsetsAtCompile);
        holds("4.6", "of the earlier entries of the same block in the same unit's list.", this::offsetsOfOwnList);
        holds("5.1", "records EQUIVALENCE (a, b) in unit (0..3) and answers true", this::equivalenceRecords);
        holds("5.2", "a and b must be fixed codes (otherwise refused).", this::equivalenceOfFixed);
        holds("5.3", "It is also refused when 16 equivalences are recorded (all units together)", this::fullEquivalences);
        holds("5.4", "and once compile() has been called.", this::equivalenceOnceCompiled);
        holds("5.5", "Equivalences are kept in the order recorded.", this::equivalenceOrder);
    }

    private void anyOrder() {
        FortranStatic f = fresh();
        add(f, 1, 0, ASSIGN, ADD, fixed(0, 1), fixed(3, 3), 1);
        accepted("equivalence before its dimensions", f.equivalence(1, fixed(3, 2), fixed(4, 3)));
        add(f, 0, 0, ASSIGN, ADD, fixed(6, 4), 30, 0);
        accepted("common before its dimension", f.common(1, 2, 4));
        add(f, 0, 0, CALL, 1 + 4, fixed(5, 2));
        accepted("dimension after its uses", f.dimension(1, 3, 3));
        accepted("parameters after the CALL", f.parameters(1, 1));
        accepted("common", f.common(0, 2, 6));
        add(f, 1, 0, PRINT, 0, fixed(0, 1));
        accepted("dimension", f.dimension(0, 6, 4));
        accepted("dimension", f.dimension(1, 4, 3));
        accepted("dimension", f.dimension(0, 5, 2));
        runs("declared late", f, 10, DONE, 4);
        printed("declared late", f, 31);
        due("the argument", f.value(0, fixed(5, 2)), 31);
    }

    private void whileAwaiting() {
        for (int given = 0; given < 5; given++) {
            FortranStatic f = fresh();
            int[] codes = {9, fixed(0, 1), 1, 2, 1};
            accepted("DO", f.statement(0, 0, DO, 0));
            for (int i = 0; i < 5; i++) {
                if (i == given) {
                    accepted("dimension", f.dimension(0, 1, 3));
                    accepted("parameters", f.parameters(3, 2));
                    accepted("common", f.common(0, 0, 1));
                    accepted("equivalence", f.equivalence(0, fixed(1, 3), fixed(2, 1)));
                    due("still awaited", pending(f), 5 - given);
                }
                accepted("operand", f.operand(codes[i]));
            }
            due("length", length(f, 0, 1), 3);
            due("p(3)", params(f, 3), 2);
            due("entry", f.query(FortranStatic.Q_COMMON, 0, 0), 1);
            due("equivalence", f.query(FortranStatic.Q_EQUIV, 0, 2), fixed(2, 1));
            add(f, 0, 9, PRINT, 0, fixed(0, 1));
            runs("then", f, 10, DONE, 3);
        }
    }

    private void onceCompiled() {
        for (int answer = 1; answer <= 8; answer++) {
            FortranStatic f = answering(answer);
            compiles("program", f, answer);
            for (int unit = 0; unit <= 3; unit++) {
                int u = unit;
                refused("dimension", f, () -> f.dimension(u, 7, 9));
                refused("parameters", f, () -> f.parameters(u, 3));
                refused("common", f, () -> f.common(u, 3, 7));
                refused("equivalence", f, () -> f.equivalence(u, fixed(7, 1), fixed(6, 1)));
            }
        }
    }

    private void outOfRange() {
        FortranStatic f = fresh();
        int[] below = {MIN, -1};
        for (int odd : below) {
            refuseEachArgument(f, odd, odd, odd, odd, odd);
        }
        refuseEachArgument(f, 4, 8, 0, 4, 4);
        refuseEachArgument(f, 5, 9, 17, 5, 5);
        refuseEachArgument(f, MAX, MAX, MAX, MAX, MAX);
    }

    private void refuseEachArgument(FortranStatic f, int unit, int name, int length, int count, int block) {
        refused("dimension of unit " + unit, f, () -> f.dimension(unit, 0, 2));
        refused("dimension of name " + name, f, () -> f.dimension(0, name, 2));
        refused("dimension to length " + length, f, () -> f.dimension(0, 0, length));
        refused("parameters of unit " + unit, f, () -> f.parameters(unit, 1));
        refused("parameters with count " + count, f, () -> f.parameters(1, count));
        refused("common of unit " + unit, f, () -> f.common(unit, 0, 0));
        refused("common of block " + block, f, () -> f.common(0, block, 0));
        refused("common of name " + name, f, () -> f.common(0, 0, name));
        refused("equivalence in unit " + unit, f, () -> f.equivalence(unit, fixed(0, 1), fixed(1, 1)));
    }

    private void dimensionSets() {
        int[] units = {0, 1, 2, 3};
        int[] names = {0, 1, 6, 7};
        int[] lengths = {1, 2, 15, 16};
        for (int unit : units) {
            for (int name : names) {
                for (int set : lengths) {
                    FortranStatic f = fresh();
                    accepted("dimension(" + unit + ", " + name + ", " + set + ")", f.dimension(unit, name, set));
                    for (int other = 0; other < 32; other++) {
                        due("length of " + other, length(f, other / 8, other % 8), other == 8 * unit + name ? set : 1);
                    }
                    add(f, unit, 0, ASSIGN, ADD, fixed(name, set), 1, 1);
                    compiles("its last element", f, OK);
                    due("its last element", f.aliased(unit, fixed(name, set), unit, fixed(name, set)), true);
                    due("one after it", f.aliased(unit, fixed(name, set + 1), unit, fixed(name, set + 1)), false);
                }
            }
        }
    }

    private void lastDimensionWins() {
        int[][] calls = {{5, 3}, {3, 5}, {16, 1}, {1, 16}, {4, 9, 2}};
        for (int[] lengths : calls) {
            int last = lengths[lengths.length - 1];
            for (int i = 0; i <= 1; i++) {
                FortranStatic f = fresh();
                for (int set : lengths) {
                    accepted("dimension", f.dimension(2, 4, set));
                    due("length", length(f, 2, 4), set);
                }
                if (last + i <= 16) {
                    add(f, 2, 0, PRINT, 0, fixed(4, last + i));
                    compiles("element " + (last + i) + " of " + last, f, i == 0 ? OK : FortranStatic.C_INDEX);
                }
            }
        }
    }

    private void dimensionOfDummy() {
        FortranStatic f = fresh();
        accepted("parameters", f.parameters(1, 1));
        accepted("dimension of what is a dummy, to 1", f.dimension(1, 0, 1));
        accepted("dimension of what is a dummy, to 16", f.dimension(1, 0, 16));
        due("its length as set", length(f, 1, 0), 16);
        accepted("dimension of what will be a dummy", f.dimension(2, 2, 16));
        accepted("parameters", f.parameters(2, 3));
        due("its length as set", length(f, 2, 2), 16);
    }

    private void longDummy() {
        int[] lengths = {1, 2, 16};
        for (int set : lengths) {
            int want = set > 1 ? FortranStatic.C_DUMMY : OK;
            FortranStatic f = fresh();
            f.parameters(1, 2);
            f.dimension(1, 1, set);
            compiles("a dummy of length " + set, f, want);
            FortranStatic g = fresh();
            g.dimension(1, 1, set);
            g.parameters(1, 2);
            compiles("a name of length " + set + " that becomes a dummy", g, want);
            FortranStatic h = fresh();
            h.parameters(1, 2);
            h.dimension(1, 1, 17 - set);
            h.dimension(1, 1, set);
            compiles("a dummy of length " + set + " in the end", h, want);
            FortranStatic k = fresh();
            k.parameters(1, 2);
            k.dimension(1, 1, set);
            k.parameters(1, 1);
            compiles("a dummy no more, of length " + set, k, OK);
            FortranStatic m = fresh();
            m.parameters(1, 2);
            m.dimension(1, 2, set);
            compiles("the name after the last dummy, of length " + set, m, OK);
        }
    }

    private void longDummyAfterIncomplete() {
        FortranStatic f = fresh();
        f.parameters(1, 1);
        f.dimension(1, 0, 2);
        f.statement(0, 0, PRINT, 0);
        compiles("a long dummy and an awaited operand", f, FortranStatic.C_INCOMPLETE);
    }

    private void parametersSets() {
        for (int unit = 1; unit <= 3; unit++) {
            for (int count = 0; count <= 3; count++) {
                FortranStatic f = fresh();
                accepted("parameters(" + unit + ", " + count + ")", f.parameters(unit, count));
                for (int other = 0; other <= 3; other++) {
                    due("p(" + other + ")", params(f, other), other == unit ? count : 0);
                }
            }
        }
    }

    private void lastParametersWins() {
        for (int first = 0; first <= 3; first++) {
            for (int last = 0; last <= 3; last++) {
                FortranStatic f = fresh();
                accepted("parameters", f.parameters(3, first));
                accepted("parameters", f.parameters(3, last));
                due("p(3)", params(f, 3), last);
                f.statement(0, 0, CALL, 3 + 4 * last);
                for (int i = 0; i < last; i++) {
                    f.operand(fixed(0, 1));
                }
                compiles("a CALL with " + last + " after " + first, f, OK);
            }
        }
    }

    private void parametersOutOfRange() {
        FortranStatic f = fresh();
        for (int unit = 1; unit <= 3; unit++) {
            f.parameters(unit, 2);
        }
        int[] units = {MIN, -1, 0, 4, MAX};
        for (int unit : units) {
            for (int count = 0; count <= 3; count++) {
                int c = count;
                refused("parameters(" + unit + ", " + count + ")", f, () -> f.parameters(unit, c));
            }
        }
        int[] counts = {MIN, -1, 4, 5, MAX};
        for (int count : counts) {
            for (int unit = 0; unit <= 3; unit++) {
                int u = unit;
                refused("parameters(" + unit + ", " + count + ")", f, () -> f.parameters(u, count));
            }
        }
    }

    private void parametersOnceCompiled() {
        for (int answer = 1; answer <= 8; answer++) {
            FortranStatic f = answering(answer);
            compiles("program", f, answer);
            for (int unit = 1; unit <= 3; unit++) {
                for (int count = 0; count <= 3; count++) {
                    int u = unit;
                    int c = count;
                    refused("parameters(" + unit + ", " + count + ")", f, () -> f.parameters(u, c));
                }
            }
        }
    }

    private void dummiesAtCompile() {
        for (int before = 0; before <= 3; before++) {
            for (int last = 0; last <= 3; last++) {
                for (int name = 0; name <= 3; name++) {
                    int want = name < last ? FortranStatic.C_DUMMY : OK;
                    FortranStatic f = fresh();
                    f.parameters(2, before);
                    f.common(2, 0, name);
                    f.parameters(2, last);
                    compiles("common of name " + name + " with " + before + ", then " + last, f, want);
                    FortranStatic g = fresh();
                    g.parameters(2, before);
                    g.equivalence(2, fixed(name, 1), fixed(7, 1));
                    g.parameters(2, last);
                    compiles("equivalence of name " + name + " with " + before + ", then " + last, g, want);
                }
            }
        }
    }

    private void commonAppends() {
        for (int unit = 0; unit <= 3; unit++) {
            FortranStatic f = fresh();
            int[] blocks = {0, 3, 3, 1, 0, 2};
            int[] names = {7, 0, 7, 3, 0, 5};
            for (int i = 0; i < 6; i++) {
                accepted("common", f.common(unit, blocks[i], names[i]));
                for (int other = 0; other <= 3; other++) {
                    due("the entry", f.query(FortranStatic.Q_COMMON, other, i), other == unit ? 8 * blocks[i] + names[i] : -1);
                }
            }
            for (int i = 0; i < 6; i++) {
                due("entry " + i, f.query(FortranStatic.Q_COMMON, unit, i), 8 * blocks[i] + names[i]);
            }
            due("no more", f.query(FortranStatic.Q_COMMON, unit, 6), -1);
        }
    }

    private void fullList() {
        for (int unit = 0; unit <= 3; unit++) {
            FortranStatic f = fresh();
            int u = unit;
            for (int i = 0; i < 8; i++) {
                accepted("entry " + i, f.common(unit, i / 2, i));
            }
            for (int block = 0; block <= 3; block++) {
                int b = block;
                refused("a ninth entry", f, () -> f.common(u, b, 0));
            }
            for (int other = 0; other <= 3; other++) {
                accepted("another unit's list has room", other == unit || f.common(other, 0, 0));
            }
            compiles("a full list", f, OK);
            due("extent of the last block", extent(f, 3), 2);
        }
    }

    private void commonOnceCompiled() {
        for (int answer = 1; answer <= 8; answer++) {
            FortranStatic f = answering(answer);
            compiles("program", f, answer);
            for (int unit = 0; unit <= 3; unit++) {
                int u = unit;
                refused("common", f, () -> f.common(u, 3, 7));
            }
        }
    }

    private void duplicates() {
        FortranStatic f = fresh();
        for (int i = 0; i < 8; i++) {
            accepted("the same entry again", f.common(1, 2, 5));
            due("entry " + i, f.query(FortranStatic.Q_COMMON, 1, i), 21);
        }
        refused("a ninth", f, () -> f.common(1, 2, 5));
        compiles("a name at two places of a block", f, FortranStatic.C_CONFLICT);
    }

    private void offsetsAtCompile() {
        FortranStatic f = fresh();
        f.dimension(0, 0, 16);
        f.common(0, 0, 0);
        f.common(0, 0, 1);
        f.common(0, 0, 2);
        f.dimension(0, 0, 2);
        f.dimension(0, 1, 3);
        f.dimension(1, 7, 16);
        f.common(1, 0, 7);
        compiles("lengths set later", f, OK);
        for (int i = 1; i <= 16; i++) {
            due("the first, at " + i, f.aliased(0, fixed(0, 1), 1, fixed(7, i)), i == 1);
            due("the second, at " + i, f.aliased(0, fixed(1, 1), 1, fixed(7, i)), i == 3);
            due("the third, at " + i, f.aliased(0, fixed(2, 1), 1, fixed(7, i)), i == 6);
        }
    }

    private void offsetsOfOwnList() {
        for (int unit = 0; unit <= 3; unit++) {
            int before = (unit + 3) % 4;
            int after = (unit + 1) % 4;
            FortranStatic f = fresh();
            f.dimension(unit, 0, 5);
            f.dimension(unit, 1, 7);
            f.dimension(unit, 2, 2);
            f.common(before, 1, 0);
            f.common(unit, 1, 0);
            f.common(unit, 3, 1);
            f.common(after, 3, 1);
            f.common(unit, 1, 2);
            f.common(unit, 3, 3);
            f.dimension(before, 4, 16);
            f.common(before, 1, 4);
            f.dimension(after, 4, 16);
            f.common(after, 3, 4);
            compiles("two blocks, interleaved", f, OK);
            due("the first of block 1", f.aliased(unit, fixed(0, 1), before, fixed(0, 1)), true);
            due("the first of block 3", f.aliased(unit, fixed(1, 1), after, fixed(1, 1)), true);
            for (int i = 1; i <= 16; i++) {
                due("the first of block 1, at " + i, f.aliased(unit, fixed(0, 2), before, fixed(4, i)), i == 1);
                due("the second of block 1, at " + i, f.aliased(unit, fixed(2, 1), before, fixed(4, i)), i == 5);
                due("the first of block 3, at " + i, f.aliased(unit, fixed(1, 2), after, fixed(4, i)), i == 1);
                due("the second of block 3, at " + i, f.aliased(unit, fixed(3, 1), after, fixed(4, i)), i == 7);
            }
        }
    }

    private void equivalenceRecords() {
        int[] edges = {10000, 10001, 10016, 10700, 10716};
        for (int unit = 0; unit <= 3; unit++) {
            for (int a : edges) {
                for (int b : edges) {
                    FortranStatic f = fresh();
                    accepted("equivalence(" + unit + ", " + a + ", " + b + ")", f.equivalence(unit, a, b));
                    due("unit", f.query(FortranStatic.Q_EQUIV, 0, 0), unit);
                    due("a", f.query(FortranStatic.Q_EQUIV, 0, 1), a);
                    due("b", f.query(FortranStatic.Q_EQUIV, 0, 2), b);
                    due("just one", f.query(FortranStatic.Q_EQUIV, 1, 0), -1);
                }
            }
        }
        FortranStatic f = fresh();
        int[] units = {MIN, -1, 4, MAX};
        for (int unit : units) {
            refused("equivalence in unit " + unit, f, () -> f.equivalence(unit, fixed(0, 1), fixed(1, 1)));
        }
    }

    private void equivalenceOfFixed() {
        int[] codes = {MIN, -1, 0, 1, 100, 9999, 10017, 10099, 10717, 10800, 11000, 19999, 20000, 20001, 20707, 30000, MAX};
        FortranStatic f = fresh();
        for (int code : codes) {
            refused("a = " + code, f, () -> f.equivalence(0, code, fixed(0, 1)));
            refused("b = " + code, f, () -> f.equivalence(0, fixed(0, 1), code));
            refused("a = b = " + code, f, () -> f.equivalence(0, code, code));
        }
    }

    private void fullEquivalences() {
        for (int shift = 0; shift <= 3; shift++) {
            FortranStatic f = fresh();
            for (int i = 0; i < 16; i++) {
                accepted("equivalence " + i, f.equivalence(shift == 0 ? 0 : (i + shift) % 4, fixed(0, 1), fixed(i % 8, 1)));
            }
            for (int unit = 0; unit <= 3; unit++) {
                int u = unit;
                refused("a seventeenth", f, () -> f.equivalence(u, fixed(0, 1), fixed(1, 1)));
            }
            due("no seventeenth", f.query(FortranStatic.Q_EQUIV, 16, 0), -1);
            compiles("sixteen", f, OK);
        }
        // The sixteenth counts as much as the first.
        FortranStatic f = fresh();
        f.dimension(3, 5, 2);
        for (int i = 0; i < 15; i++) {
            accepted("equivalence " + i, f.equivalence(0, fixed(0, 1), fixed(1, 1)));
        }
        accepted("the sixteenth", f.equivalence(3, fixed(5, 2), fixed(6, 1)));
        compiles("sixteen", f, OK);
        due("joined by the sixteenth", f.aliased(3, fixed(5, 2), 3, fixed(6, 1)), true);
    }

    private void equivalenceOnceCompiled() {
        for (int answer = 1; answer <= 8; answer++) {
            FortranStatic f = answering(answer);
            compiles("program", f, answer);
            for (int unit = 0; unit <= 3; unit++) {
                int u = unit;
                refused("equivalence", f, () -> f.equivalence(u, fixed(7, 1), fixed(6, 1)));
            }
        }
    }

    private void equivalenceOrder() {
        FortranStatic f = fresh();
        for (int i = 0; i < 16; i++) {
            accepted("equivalence " + i, f.equivalence(3 - i % 4, fixed(i % 8, 16 - i), fixed(7 - i % 8, i)));
        }
        for (int i = 0; i < 16; i++) {
            due("unit of " + i, f.query(FortranStatic.Q_EQUIV, i, 0), 3 - i % 4);
            due("a of " + i, f.query(FortranStatic.Q_EQUIV, i, 1), fixed(i % 8, 16 - i));
            due("b of " + i, f.query(FortranStatic.Q_EQUIV, i, 2), fixed(7 - i % 8, i));
        }
    }
}
