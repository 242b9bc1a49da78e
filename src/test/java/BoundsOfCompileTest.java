/** Sentences of promise 7 that name a boundary case. */
public final class BoundsOfCompileTest extends Bounds {
    private static final int DUMMY = FortranStatic.C_DUMMY;
    private static final int TOO_FAR = FortranStatic.C_INDEX;
    private static final int CONFLICT = FortranStatic.C_CONFLICT;
    private static final int BACKWARD = FortranStatic.C_BACKWARD;
    private static final int LABEL = FortranStatic.C_LABEL;

    public static void main(String[] args) {
        new BoundsOfCompileTest().look(args);
    }

    @Override
    void sentences() {
        holds("7.1", "the first call decides the answer and freezes the program", this::firstCallDecides);
        holds("7.2", "later calls give the same answer and change nothing.", this::laterCalls);
        holds("7.3", "After the first call every declaration, statement() and operand() is refused, whatever the answer.", this::frozen);
        holds("7.4", "The first failing check in this order gives the answer:", this::order);
        holds("7.5", "C_INCOMPLETE: a statement still awaits operands.", this::incomplete);
        holds("7.6", "C_DUMMY: a dummy is in a COMMON entry", this::dummyInCommon);
        holds("7.7", "or in an EQUIVALENCE", this::dummyInEquivalence);
        holds("7.8", "or has length > 1 set by dimension.", this::longDummy);
        holds("7.9", "C_INDEX: a fixed code in an EQUIVALENCE", this::tooFarInEquivalence);
        holds("7.10", "or a statement has i > length of n.", this::tooFarInStatement);
        holds("7.11", "C_CONFLICT: the LAYOUT has no solution", this::noSolution);
        holds("7.12", "or two distinct blocks are connected.", this::blocksConnected);
        holds("7.13", "C_BACKWARD: some stored name n connected to a block b has pos(n) < pos(b).", this::backward);
        holds("7.14", "C_LABEL: two statements of one unit have the same label 1..99", this::labelTwice);
        holds("7.15", "or an L operand is no label of its statement's unit", this::noLabel);
        holds("7.16", "(an L operand of 0 or above 99 never matches; label 0 means unlabelled)", this::labelsThatNeverMatch);
        holds("7.17", "or the statement labelled by a DO's end is not after that DO in the unit", this::endBeforeLoop);
        holds("7.18", "or is not of kind ASSIGN, CALL, PRINT or CONTINUE.", this::kindOfEnd);
        holds("7.19", "C_CALL: a CALL's c differs from p(s).", this::wrongCall);
        holds("7.20", "Otherwise C_OK.", this::otherwiseOk);
        holds("7.21", "each COMMON entry (b, n) of unit u with offset o gives pos(u,n) = pos(b) + o", this::entriesPlace);
        holds("7.22", "each EQUIVALENCE in u of fixed codes n(i), n'(j) gives pos(u,n) + i = pos(u,n') + j", this::equivalencesPlace);
        holds("7.23", "(0 read as 1)", this::zeroReadAsOne);
        holds("7.24", "Two unknowns are CONNECTED when a chain of constraints joins them.", this::chains);
        holds("7.25", "cell n(i) of a stored name lies at position pos(n)+i-1", this::cellPositions);
        holds("7.26", "two cells are the SAME CELL iff their names are connected and their positions equal.", this::sameCells);
        holds("7.27", "The EXTENT of block b is the greatest pos(n) + length(n) - pos(b) over names n connected to b", this::extents);
        holds("7.28", "or 0 if there is none.", this::emptyExtents);
        holds("7.29", "every t with 1 <= i+t <= length(n) and 1 <= j+t <= length(n2), the cells n(i+t) and n2(j+t) are the same cell",
            this::overlaps);
        holds("7.30", "two cells of names in COMMON entries of the same block (any units) that lie at the same block position"
            + " (offset + i - 1 equal, i of 0 read as 1) are the same cell.", this::blockPositions);
        holds("7.31", "Connection depends only on the recorded constraints.", this::connectionByConstraintsAlone);
        holds("7.32", "checks 4 and 5 do not depend on which solution is chosen.", this::anyOrderOfConstraints);
    }

    private void firstCallDecides() {
        for (int answer = 1; answer <= 8; answer++) {
            FortranStatic f = answering(answer);
            due("before", f.query(FortranStatic.Q_COMPILED, 0, 0), 0);
            accepted("still open", f.dimension(3, 7, 2));
            compiles("first", f, answer);
            due("after", f.query(FortranStatic.Q_COMPILED, 0, 0), answer);
            refused("frozen", f, () -> f.dimension(3, 7, 1));
        }
        // What would mend the program comes too late.
        FortranStatic f = answering(LABEL);
        compiles("first", f, LABEL);
        refused("the missing label", f, () -> f.statement(0, 2, CONTINUE, 0));
        compiles("second", f, LABEL);
        FortranStatic g = answering(FortranStatic.C_INCOMPLETE);
        compiles("first", g, FortranStatic.C_INCOMPLETE);
        refused("the missing operand", g, () -> g.operand(1));
        compiles("second", g, FortranStatic.C_INCOMPLETE);
    }

    private void laterCalls() {
        for (int answer = 1; answer <= 8; answer++) {
            FortranStatic f = answering(answer);
            compiles("first", f, answer);
            String shown = everythingShown(f);
            for (int i = 0; i < 3; i++) {
                compiles("later", f, answer);
                unchanged("compile()", f, shown);
            }
            f.run(100);
            shown = everythingShown(f);
            compiles("after a run", f, answer);
            unchanged("compile() after a run", f, shown);
        }
        // A run has bound a dummy and left values; a later compile() must not disturb the next run.
        FortranStatic f = fresh();
        f.parameters(1, 1);
        add(f, 0, 0, CALL, 1 + 4, fixed(6, 1));
        add(f, 1, 0, ASSIGN, ADD, fixed(0, 1), fixed(0, 1), 4);
        runs("first", f, 10, DONE, 2);
        compiles("between", f, OK);
        due("value", f.value(0, fixed(6, 1)), 4);
        runs("second", f, 10, DONE, 2);
        due("value", f.value(0, fixed(6, 1)), 4);
    }

    private void frozen() {
        for (int answer = 1; answer <= 8; answer++) {
            FortranStatic f = answering(answer);
            compiles("program", f, answer);
            for (int round = 0; round < 2; round++) {
                refused("dimension", f, () -> f.dimension(1, 7, 16));
                refused("parameters", f, () -> f.parameters(3, 3));
                refused("common", f, () -> f.common(1, 0, 7));
                refused("equivalence", f, () -> f.equivalence(1, fixed(7, 1), fixed(6, 1)));
                refused("statement", f, () -> f.statement(1, 0, CONTINUE, 0));
                refused("operand", f, () -> f.operand(1));
                f.run(10);
            }
        }
    }

    private void order() {
        for (int first = 2; first <= 8; first++) {
            for (int second = first; second <= 8; second++) {
                FortranStatic f = fresh();
                f.dimension(0, 5, 4);
                f.common(0, 1, 5);
                // C_INCOMPLETE leaves a statement open, so its fault comes last.
                addFault(f, second);
                addFault(f, first);
                compiles("faults " + first + " and " + second, f, first);
            }
            FortranStatic all = fresh();
            all.dimension(0, 5, 4);
            all.common(0, 1, 5);
            for (int fault = 8; fault >= first; fault--) {
                addFault(all, fault);
            }
            compiles("all faults from " + first, all, first);
        }
    }

    private void addFault(FortranStatic f, int answer) {
        if (answer == FortranStatic.C_INCOMPLETE) {
            f.statement(0, 0, PRINT, 0);
        } else if (answer == DUMMY) {
            f.parameters(2, 1);
            f.common(2, 0, 0);
        } else if (answer == TOO_FAR) {
            add(f, 0, 0, PRINT, 0, fixed(6, 3));
        } else if (answer == CONFLICT) {
            f.equivalence(0, fixed(5, 1), fixed(5, 2));
        } else if (answer == BACKWARD) {
            f.dimension(0, 6, 2);
            f.equivalence(0, fixed(5, 1), fixed(6, 2));
        } else if (answer == LABEL) {
            add(f, 0, 0, GOTO, 1, 1, 2);
        } else {
            add(f, 0, 0, CALL, 1 + 4, fixed(0, 1));
        }
    }

    private void incomplete() {
        int[][] kinds = {{ASSIGN, 0, 3}, {IF, 0, 5}, {GOTO, 1, 2}, {GOTO, 4, 5}, {DO, 0, 5}, {CALL, 1, 0}, {CALL, 7, 1}, {CALL, 15, 3},
            {PRINT, 0, 1}, {CONTINUE, 0, 0}, {RETURN, 0, 0}, {STOP, 0, 0}};
        for (int[] kind : kinds) {
            for (int given = 0; given <= kind[2]; given++) {
                FortranStatic f = fresh();
                f.parameters(3, kind[1] / 4 % 4);
                add(f, 0, 0, DO, 0, 1, fixed(1, 1), 1, 1, 1);
                if (kind[0] == DO) {
                    add(f, 0, 1, PRINT, 0, 1);
                }
                accepted("statement", f.statement(0, kind[0] == DO ? 0 : 2, kind[0], kind[1]));
                for (int i = 0; i < given; i++) {
                    accepted("operand", f.operand(1) || f.operand(fixed(0, 1)));
                }
                String what = "kind " + kind[0] + " with " + given + " of " + kind[2];
                if (given < kind[2]) {
                    compiles(what, f, FortranStatic.C_INCOMPLETE);
                } else {
                    due(what + " is complete", f.compile() != FortranStatic.C_INCOMPLETE, true);
                }
            }
        }
        FortranStatic f = fresh();
        compiles("no statement at all", f, OK);
    }

    private void dummyInCommon() {
        for (int unit = 1; unit <= 3; unit++) {
            for (int count = 0; count <= 3; count++) {
                for (int name = 0; name <= 7; name++) {
                    FortranStatic f = fresh();
                    f.parameters(unit, count);
                    f.common(unit, 3, 7);
                    f.common(unit, 2, name == 7 ? 6 : name);
                    compiles("name " + name + " of unit " + unit, f, name < count ? DUMMY : OK);
                }
            }
        }
        FortranStatic f = fresh();
        f.parameters(1, 3);
        f.common(0, 0, 0);
        f.common(2, 0, 0);
        f.common(3, 0, 2);
        compiles("names of units without parameters", f, OK);
    }

    private void dummyInEquivalence() {
        for (int unit = 1; unit <= 3; unit++) {
            for (int name = 0; name <= 7; name++) {
                FortranStatic f = fresh();
                f.parameters(unit, 2);
                f.equivalence(unit, fixed(7, 1), fixed(6, 1));
                f.equivalence(unit, fixed(name, 1), fixed(5, 1));
                compiles("a is name " + name, f, name < 2 ? DUMMY : OK);
                FortranStatic g = fresh();
                g.parameters(unit, 2);
                g.equivalence(unit, fixed(5, 1), fixed(name, 1));
                compiles("b is name " + name, g, name < 2 ? DUMMY : OK);
            }
        }
        FortranStatic f = fresh();
        f.parameters(1, 1);
        f.equivalence(1, fixed(0, 1), fixed(0, 0));
        compiles("a dummy with itself", f, DUMMY);
        FortranStatic g = fresh();
        g.parameters(1, 1);
        g.equivalence(0, fixed(0, 1), fixed(1, 1));
        g.equivalence(2, fixed(1, 1), fixed(0, 1));
        compiles("names of units without parameters", g, OK);
    }

    private void longDummy() {
        for (int unit = 1; unit <= 3; unit++) {
            for (int name = 0; name <= 3; name++) {
                for (int set = 1; set <= 16; set++) {
                    FortranStatic f = fresh();
                    f.parameters(unit, 2);
                    f.dimension(unit, name, set);
                    compiles("name " + name + " of length " + set, f, name < 2 && set > 1 ? DUMMY : OK);
                }
            }
        }
        FortranStatic f = fresh();
        f.parameters(1, 3);
        f.dimension(0, 0, 16);
        f.dimension(2, 0, 16);
        compiles("names of units without parameters", f, OK);
    }

    private void tooFarInEquivalence() {
        for (int set = 1; set <= 16; set++) {
            for (int i = 0; i <= 16; i++) {
                FortranStatic f = fresh();
                f.dimension(2, 3, set);
                f.equivalence(2, fixed(3, i), fixed(4, 1));
                compiles("a is element " + i + " of " + set, f, i > set ? TOO_FAR : OK);
                FortranStatic g = fresh();
                g.dimension(2, 3, set);
                g.equivalence(2, fixed(4, 1), fixed(3, i));
                compiles("b is element " + i + " of " + set, g, i > set ? TOO_FAR : OK);
            }
        }
        FortranStatic f = fresh();
        f.dimension(0, 3, 9);
        f.equivalence(1, fixed(3, 2), fixed(3, 2));
        compiles("the length is that of the unit", f, TOO_FAR);
    }

    private void tooFarInStatement() {
        int[][] kinds = {{ASSIGN, 0}, {IF, 0}, {GOTO, 1}, {DO, 0}, {CALL, 15}, {PRINT, 0}};
        String[] places = {"WVV", "VVLLL", "VL", "LWVVV", "WWW", "V"};
        for (int k = 0; k < kinds.length; k++) {
            for (int place = 0; place < places[k].length(); place++) {
                for (int i = 0; i <= 16; i++) {
                    if (places[k].charAt(place) != 'L') {
                        FortranStatic f = withElement(kinds[k], places[k], place, i);
                        compiles("kind " + kinds[k][0] + ", place " + place + ", element " + i + " of 3", f, i > 3 ? TOO_FAR : OK);
                    }
                }
            }
        }
        FortranStatic f = fresh();
        f.dimension(0, 3, 9);
        add(f, 1, 0, PRINT, 0, fixed(3, 2));
        compiles("the length is that of the unit", f, TOO_FAR);
        // A statement with all five operands is followed by one of another unit, with longer names.
        FortranStatic h = fresh();
        h.dimension(1, 3, 9);
        add(h, 0, 1, IF, 0, fixed(3, 1), 1, 1, 1, 1);
        add(h, 1, 0, PRINT, 0, fixed(3, 9));
        compiles("each code is judged in its own unit", h, OK);
        // Neither the index of an indexed code nor a constant is an element number.
        FortranStatic g = fresh();
        add(g, 0, 0, PRINT, 0, indexed(0, 7));
        add(g, 0, 0, PRINT, 0, 16);
        compiles("indexed", g, OK);
    }

    private FortranStatic withElement(int[] kind, String places, int place, int i) {
        FortranStatic f = fresh();
        f.parameters(3, 3);
        f.dimension(0, 4, 3);
        accepted("statement", f.statement(0, 0, kind[0], kind[1]));
        for (int p = 0; p < places.length(); p++) {
            accepted("operand", f.operand(p == place ? fixed(4, i) : places.charAt(p) == 'L' ? 1 : fixed(5, 1)));
        }
        add(f, 0, 1, CONTINUE, 0);
        return f;
    }

    private void noSolution() {
        for (int i = 1; i <= 4; i++) {
            for (int j = 1; j <= 4; j++) {
                FortranStatic f = fresh();
                f.dimension(0, 1, 4);
                f.equivalence(0, fixed(1, i), fixed(1, j));
                compiles("element " + i + " and element " + j + " of one name", f, i == j ? OK : CONFLICT);
                FortranStatic g = fresh();
                g.dimension(0, 1, 4);
                g.dimension(0, 2, 4);
                g.equivalence(0, fixed(1, 2), fixed(2, 3));
                g.equivalence(0, fixed(2, i), fixed(1, j));
                compiles("n1(2) = n2(3), n2(" + i + ") = n1(" + j + ")", g, i == j + 1 ? OK : CONFLICT);
            }
        }
        for (int i = 1; i <= 3; i++) {
            FortranStatic f = fresh();
            f.dimension(0, 1, 3);
            f.dimension(0, 2, 3);
            f.dimension(0, 3, 3);
            f.equivalence(0, fixed(1, 1), fixed(2, 2));
            f.equivalence(0, fixed(2, 2), fixed(3, 3));
            f.equivalence(0, fixed(3, 3), fixed(1, i));
            compiles("a ring of three", f, i == 1 ? OK : CONFLICT);
        }
        for (int i = 1; i <= 4; i++) {
            FortranStatic f = fresh();
            f.dimension(0, 1, 2);
            f.dimension(0, 2, 4);
            f.dimension(0, 3, 4);
            f.common(0, 2, 1);
            f.common(0, 2, 2);
            f.equivalence(0, fixed(1, 1), fixed(3, 1));
            f.equivalence(0, fixed(3, i), fixed(2, 1));
            compiles("a block against an equivalence", f, i == 3 ? OK : CONFLICT);
        }
        FortranStatic f = fresh();
        f.common(1, 0, 4);
        f.common(1, 0, 4);
        compiles("a name twice in a block", f, CONFLICT);
    }

    private void blocksConnected() {
        for (int one = 0; one <= 3; one++) {
            for (int two = 0; two <= 3; two++) {
                int want = one == two ? OK : CONFLICT;
                FortranStatic f = fresh();
                f.common(0, one, 1);
                f.common(1, two, 1);
                f.common(1, one, 2);
                compiles("no connection", f, OK);
                FortranStatic g = fresh();
                g.common(0, one, 1);
                if (one != two) {
                    g.common(0, two, 1);
                }
                compiles("one name in two blocks", g, want);
                FortranStatic h = fresh();
                h.common(0, one, 1);
                h.common(1, one, 2);
                h.common(2, two, 4);
                h.common(1, two, one == two ? 6 : 3);
                h.equivalence(1, fixed(2, 1), fixed(5, 1));
                if (one != two) {
                    h.equivalence(1, fixed(5, 1), fixed(3, 1));
                }
                compiles("a chain over an equivalence", h, want);
            }
        }
    }

    private void backward() {
        for (int block = 0; block <= 3; block++) {
            for (int j = 1; j <= 5; j++) {
                FortranStatic f = fresh();
                f.dimension(2, 6, 3);
                f.dimension(2, 7, 5);
                f.common(2, block, 6);
                f.equivalence(2, fixed(6, 3), fixed(7, j));
                compiles("n7(" + j + ") at the third cell of the block", f, j > 3 ? BACKWARD : OK);
            }
            // Each name of each unit may be the one that goes too far.
            for (int slot = 0; slot < 32; slot++) {
                int unit = slot / 8;
                int name = slot % 8;
                FortranStatic f = fresh();
                f.dimension(unit, name, 2);
                f.common(unit, block, (name + 1) % 8);
                f.equivalence(unit, fixed((name + 1) % 8, 1), fixed(name, 2));
                compiles("name " + name + " of unit " + unit + " at -1 of block " + block, f, BACKWARD);
            }
            // A chain: name 5 is tied to name 7, which is tied to the block; only name 5 goes too far.
            for (int j = 1; j <= 3; j++) {
                FortranStatic f = fresh();
                f.dimension(2, 5, 3);
                f.dimension(2, 7, 2);
                f.common(2, block, 6);
                f.common(2, block, 4);
                f.equivalence(2, fixed(7, 2), fixed(4, 1));
                f.equivalence(2, fixed(5, j), fixed(7, 1));
                compiles("a chain to n5(" + j + ")", f, j > 1 ? BACKWARD : OK);
            }
        }
        FortranStatic f = fresh();
        f.dimension(1, 1, 2);
        f.equivalence(1, fixed(1, 2), fixed(0, 1));
        compiles("tied to no block", f, OK);
        FortranStatic g = fresh();
        g.common(0, 1, 0);
        g.dimension(1, 1, 2);
        g.equivalence(1, fixed(1, 2), fixed(0, 1));
        compiles("tied to a name of another unit than the block's", g, OK);
    }

    private void labelTwice() {
        for (int label = 0; label <= 99; label++) {
            FortranStatic f = fresh();
            add(f, 2, label, CONTINUE, 0);
            add(f, 0, 50, CONTINUE, 0);
            add(f, 2, label, STOP, 0);
            compiles("label " + label + " twice", f, label == 0 ? OK : LABEL);
            FortranStatic g = fresh();
            for (int unit = 0; unit <= 3; unit++) {
                add(g, unit, label, CONTINUE, 0);
            }
            compiles("label " + label + " in every unit", g, OK);
            FortranStatic h = fresh();
            add(h, 3, label, CONTINUE, 0);
            add(h, 3, label, CONTINUE, 0);
            compiles("label " + label + " twice in a row", h, label == 0 ? OK : LABEL);
        }
        // The first and the last of 64 statements.
        FortranStatic f = fresh();
        for (int i = 0; i < 64; i++) {
            add(f, 0, i == 0 || i == 63 ? 99 : i, CONTINUE, 0);
        }
        compiles("the first and the last", f, LABEL);
    }

    /** A program with one L operand, in each of the eight label places there are, and labels 1 and 99 to go to. */
    private FortranStatic withLabel(int place, int label) {
        FortranStatic f = fresh();
        int[] l = {1, 1, 1, 1, 1, 1, 1, 1};
        l[place] = label;
        add(f, 1, 2, CONTINUE, 0);
        add(f, 0, 0, CONTINUE, 0);
        add(f, 0, 0, IF, 0, 1, 1, l[0], l[1], l[2]);
        add(f, 0, 0, GOTO, 4, 1, l[3], l[4], l[5], l[6]);
        add(f, 0, 0, DO, 0, l[7], fixed(0, 1), 1, 1, 1);
        add(f, 0, 1, CONTINUE, 0);
        add(f, 0, 99, CONTINUE, 0);
        return f;
    }

    private void noLabel() {
        for (int place = 0; place < 8; place++) {
            for (int label = 1; label <= 99; label++) {
                compiles("place " + place + ", label " + label, withLabel(place, label), label == 1 || label == 99 ? OK : LABEL);
            }
        }
        for (int k = 1; k <= 4; k++) {
            for (int wrong = 1; wrong <= k; wrong++) {
                FortranStatic f = fresh();
                f.statement(0, 9, GOTO, k);
                f.operand(1);
                for (int i = 1; i <= k; i++) {
                    f.operand(i == wrong ? 8 : 9);
                }
                compiles("label " + wrong + " of " + k, f, LABEL);
            }
        }
        FortranStatic f = fresh();
        add(f, 1, 5, GOTO, 1, 1, 5);
        add(f, 0, 0, GOTO, 1, 1, 5);
        compiles("a label of another unit", f, LABEL);
        // No room is left for the label that is missing.
        FortranStatic full = fresh();
        for (int i = 0; i < 64; i++) {
            add(full, 0, i + 1, GOTO, 1, 1, i + 2);
        }
        compiles("the last of 64 goes to a label that is none", full, LABEL);
        // The value place before the labels is no label.
        FortranStatic g = fresh();
        add(g, 0, 5, GOTO, 1, 77, 5);
        add(g, 0, 0, IF, 0, 78, 79, 5, 5, 5);
        compiles("numbers in value places", g, OK);
    }

    private void labelsThatNeverMatch() {
        int[] labels = {0, 100, 101, 199, 256, 257, 355, 9999};
        for (int place = 0; place < 8; place++) {
            for (int label : labels) {
                compiles("place " + place + ", label " + label, withLabel(place, label), LABEL);
            }
        }
        FortranStatic f = fresh();
        add(f, 0, 0, GOTO, 1, 1, 0);
        add(f, 0, 0, CONTINUE, 0);
        compiles("0 and statements without a label", f, LABEL);
    }

    private void endBeforeLoop() {
        int[] kinds = {ASSIGN, CALL, PRINT, CONTINUE};
        for (int kind : kinds) {
            FortranStatic f = fresh();
            addEnd(f, kind);
            add(f, 0, 0, DO, 0, 5, fixed(0, 1), 1, 1, 1);
            compiles("a DO just after its end", f, LABEL);
            FortranStatic g = fresh();
            add(g, 0, 0, DO, 0, 5, fixed(0, 1), 1, 1, 1);
            addEnd(g, kind);
            compiles("a DO just before its end", g, OK);
            FortranStatic h = fresh();
            add(h, 0, 0, DO, 0, 5, fixed(0, 1), 1, 1, 1);
            addEnd(h, kind);
            add(h, 0, 0, DO, 0, 5, fixed(0, 1), 1, 1, 1);
            compiles("one before and one after", h, LABEL);
        }
        FortranStatic f = fresh();
        add(f, 0, 5, DO, 0, 5, fixed(0, 1), 1, 1, 1);
        compiles("a DO that ends at itself", f, LABEL);
        // Only the DO must stand before its end: an IF or a GOTO may go back.
        FortranStatic g = fresh();
        addEnd(g, CONTINUE);
        add(g, 0, 0, IF, 0, 1, 1, 5, 5, 5);
        add(g, 0, 0, GOTO, 1, 1, 5);
        compiles("jumps back", g, OK);
    }

    private void kindOfEnd() {
        for (int kind = ASSIGN; kind <= STOP; kind++) {
            FortranStatic f = fresh();
            add(f, 0, 0, DO, 0, 5, fixed(0, 1), 1, 1, 1);
            addEnd(f, kind);
            add(f, 0, 6, CONTINUE, 0);
            boolean allowed = kind == ASSIGN || kind == CALL || kind == PRINT || kind == CONTINUE;
            compiles("an end of kind " + kind, f, allowed ? OK : LABEL);
            // As the target of a jump, every kind will do.
            FortranStatic g = fresh();
            add(g, 0, 0, GOTO, 1, 1, 5);
            addEnd(g, kind);
            add(g, 0, 6, CONTINUE, 0);
            compiles("a jump to kind " + kind, g, OK);
        }
    }

    private void addEnd(FortranStatic f, int kind) {
        int[][] codes = {{}, {fixed(1, 1), 1, 1}, {1, 1, 6, 6, 6}, {1, 6}, {6, fixed(1, 1), 1, 1, 1}, {}, {1}, {}, {}, {}};
        add(f, 0, 5, kind, kind == GOTO || kind == CALL ? 1 : 0, codes[kind]);
    }

    private void wrongCall() {
        for (int s = 1; s <= 3; s++) {
            for (int c = 0; c <= 3; c++) {
                for (int p = 0; p <= 3; p++) {
                    FortranStatic f = fresh();
                    for (int unit = 1; unit <= 3; unit++) {
                        f.parameters(unit, unit == s ? p : 3 - p);
                    }
                    f.statement(0, 0, CALL, s + 4 * c);
                    for (int i = 0; i < c; i++) {
                        f.operand(fixed(4, 1));
                    }
                    add(f, 0, 0, STOP, 0);
                    compiles("unit " + s + " with " + c + " for " + p, f, c == p ? OK : FortranStatic.C_CALL);
                }
            }
        }
        // A CALL that is never reached, in a unit that nobody calls, counts too.
        FortranStatic f = fresh();
        add(f, 0, 0, STOP, 0);
        add(f, 3, 0, RETURN, 0);
        add(f, 3, 0, CALL, 3 + 4, fixed(0, 1));
        compiles("never reached", f, FortranStatic.C_CALL);
    }

    private void otherwiseOk() {
        compiles("nothing at all", fresh(), OK);
        compiles("a plain program", answering(OK), OK);
        // Nothing said here is a fault, though each is next to one.
        FortranStatic f = fresh();
        f.parameters(1, 3);
        f.dimension(1, 0, 1);
        f.dimension(1, 3, 16);
        f.common(1, 0, 3);
        f.dimension(1, 4, 16);
        f.equivalence(1, fixed(3, 16), fixed(4, 16));
        f.equivalence(1, fixed(3, 1), fixed(4, 0));
        f.common(0, 1, 0);
        f.common(0, 2, 1);
        add(f, 0, 99, CALL, 1 + 12, fixed(0, 1), fixed(0, 1), fixed(0, 1));
        add(f, 1, 99, GOTO, 1, 0, 99);
        add(f, 1, 0, CALL, 1 + 12, fixed(0, 1), fixed(1, 1), fixed(2, 1));
        add(f, 0, 0, ASSIGN, DIV, indexed(0, 0), 1, 0);
        add(f, 0, 0, DO, 0, 1, fixed(0, 1), 1, 1, 0);
        add(f, 0, 1, CONTINUE, 0);
        compiles("recursion, division by 0, a step of 0 and a wrong index are for run()", f, OK);
    }

    private void entriesPlace() {
        for (int block = 0; block <= 3; block++) {
            FortranStatic f = fresh();
            for (int name = 0; name <= 7; name++) {
                f.dimension(0, name, name + 1);
                f.common(0, block, name);
            }
            f.dimension(1, 0, 16);
            f.dimension(1, 1, 16);
            f.dimension(1, 2, 4);
            for (int name = 0; name <= 2; name++) {
                f.common(1, block, name);
            }
            compiles("one block over two units", f, OK);
            due("extent", extent(f, block), 36);
            int offset = 0;
            for (int name = 0; name <= 7; name++) {
                for (int i = 1; i <= name + 1; i++) {
                    int at = offset + i - 1;
                    due("block position " + at, f.aliased(0, fixed(name, i), 1, fixed(at / 16, at % 16 + 1)), true);
                }
                offset += name + 1;
            }
        }
    }

    private void equivalencesPlace() {
        for (int i = 1; i <= 16; i += 5) {
            for (int j = 1; j <= 16; j += 3) {
                FortranStatic f = fresh();
                f.dimension(3, 2, 16);
                f.dimension(3, 6, 16);
                f.equivalence(3, fixed(2, i), fixed(6, j));
                compiles("n2(" + i + ") = n6(" + j + ")", f, OK);
                for (int a = 1; a <= 16; a++) {
                    for (int b = 1; b <= 16; b++) {
                        due("n2(" + a + ") and n6(" + b + ")", f.aliased(3, fixed(2, a), 3, fixed(6, b)), a - i == b - j);
                    }
                }
                due("the same names of another unit", f.aliased(0, fixed(2, i), 0, fixed(6, j)), false);
            }
        }
    }

    private void zeroReadAsOne() {
        int[][] pairs = {{0, 1}, {1, 0}, {0, 0}, {0, 2}, {2, 0}};
        for (int[] pair : pairs) {
            FortranStatic f = fresh();
            f.dimension(0, 1, 3);
            f.dimension(0, 2, 3);
            f.equivalence(0, fixed(1, pair[0]), fixed(2, pair[1]));
            compiles("elements " + pair[0] + " and " + pair[1], f, OK);
            int i = Math.max(1, pair[0]);
            int j = Math.max(1, pair[1]);
            for (int a = 1; a <= 3; a++) {
                for (int b = 1; b <= 3; b++) {
                    due("n1(" + a + ") and n2(" + b + ")", f.aliased(0, fixed(1, a), 0, fixed(2, b)), a - i == b - j);
                }
            }
        }
        FortranStatic f = fresh();
        f.equivalence(0, fixed(1, 0), fixed(1, 1));
        compiles("0 and 1 are the same", f, OK);
        FortranStatic g = fresh();
        g.dimension(0, 1, 2);
        g.equivalence(0, fixed(1, 0), fixed(1, 2));
        compiles("0 and 2 are not", g, CONFLICT);
        FortranStatic h = fresh();
        h.common(0, 0, 1);
        h.equivalence(0, fixed(1, 0), fixed(2, 1));
        compiles("at the start of the block", h, OK);
        due("extent", extent(h, 0), 1);
    }

    private void chains() {
        // Over eight names, a block, and eight names of another unit; said in an order that joins late.
        FortranStatic f = fresh();
        int[] order = {2, 0, 5, 6, 3, 1, 4};
        for (int name : order) {
            f.equivalence(0, fixed(name, 1), fixed(name + 1, 1));
            f.equivalence(3, fixed(name + 1, 1), fixed(name, 1));
        }
        f.common(0, 1, 7);
        f.common(3, 1, 7);
        compiles("a long chain", f, OK);
        due("the block is on the chain", extent(f, 1), 1);
        for (int n = 0; n <= 7; n++) {
            for (int m = 0; m <= 7; m++) {
                due("name " + n + " and name " + m, f.aliased(0, fixed(n, 1), 3, fixed(m, 1)), true);
                due("name " + n + " and name " + m, f.aliased(0, fixed(n, 1), 0, fixed(m, 1)), true);
                due("a name of a third unit", f.aliased(1, fixed(n, 1), 0, fixed(m, 1)), false);
            }
        }
    }

    private void cellPositions() {
        FortranStatic f = fresh();
        f.dimension(0, 0, 16);
        f.dimension(0, 1, 16);
        f.dimension(0, 2, 16);
        f.equivalence(0, fixed(0, 16), fixed(1, 1));
        f.equivalence(0, fixed(0, 1), fixed(2, 16));
        compiles("three names that meet at their ends", f, OK);
        int[] starts = {100, 115, 85};
        for (int n = 0; n <= 2; n++) {
            for (int m = 0; m <= 2; m++) {
                for (int i = 1; i <= 16; i++) {
                    for (int j = 1; j <= 16; j++) {
                        due("n" + n + "(" + i + ") and n" + m + "(" + j + ")", f.aliased(0, fixed(n, i), 0, fixed(m, j)),
                            starts[n] + i == starts[m] + j);
                    }
                }
            }
        }
    }

    private void sameCells() {
        // Two pairs of names with the same position differences, but no connection between the pairs.
        FortranStatic f = fresh();
        f.dimension(0, 0, 3);
        f.dimension(0, 1, 3);
        f.dimension(0, 2, 3);
        f.dimension(0, 3, 3);
        f.equivalence(0, fixed(0, 2), fixed(1, 1));
        f.equivalence(0, fixed(2, 2), fixed(3, 1));
        f.common(1, 0, 0);
        f.common(1, 1, 1);
        add(f, 0, 0, ASSIGN, ADD, fixed(0, 2), 5, 0);
        add(f, 0, 0, ASSIGN, ADD, fixed(3, 3), 6, 0);
        runs("two pairs", f, 10, DONE, 2);
        due("connected, equal positions", f.aliased(0, fixed(0, 3), 0, fixed(1, 2)), true);
        due("connected, equal positions", f.aliased(0, fixed(2, 3), 0, fixed(3, 2)), true);
        due("connected, other positions", f.aliased(0, fixed(0, 3), 0, fixed(1, 3)), false);
        due("connected, other positions", f.aliased(0, fixed(0, 3), 0, fixed(1, 1)), false);
        due("one name, other positions", f.aliased(0, fixed(0, 1), 0, fixed(0, 2)), false);
        due("not connected", f.aliased(0, fixed(0, 1), 0, fixed(2, 1)), false);
        due("not connected", f.aliased(0, fixed(1, 1), 0, fixed(3, 1)), false);
        due("starts of two blocks", f.aliased(1, fixed(0, 1), 1, fixed(1, 1)), false);
        due("names that nothing ties", f.aliased(2, fixed(0, 1), 3, fixed(0, 1)), false);
        due("a write to a same cell", f.value(0, fixed(1, 1)), 5);
        due("no write to another", f.value(0, fixed(2, 2)), 0);
        due("past the end of name 2", f.value(0, fixed(2, 3)), 0);
    }

    private void extents() {
        for (int block = 0; block <= 3; block++) {
            FortranStatic f = fresh();
            f.dimension(1, 0, 2);
            f.dimension(1, 1, 3);
            f.common(1, block, 0);
            f.common(1, block, 1);
            f.dimension(2, 0, 4);
            f.common(2, block, 0);
            f.dimension(2, 1, 16);
            f.dimension(3, 7, 16);
            compiles("the longer list, and longer names that are not connected", f, OK);
            due("extent", extent(f, block), 5);
            FortranStatic g = fresh();
            g.dimension(1, 0, 2);
            g.common(1, block, 0);
            g.dimension(1, 7, 16);
            g.equivalence(1, fixed(7, 1), fixed(0, 2));
            compiles("beyond the list by an equivalence", g, OK);
            due("extent", extent(g, block), 17);
            FortranStatic h = fresh();
            for (int name = 0; name <= 7; name++) {
                h.dimension(0, name, 16);
                h.common(0, block, name);
            }
            h.dimension(0, 7, 15);
            compiles("a full list", h, OK);
            due("extent", extent(h, block), 127);
        }
        // A long name at the start, a short one after it that ends sooner.
        FortranStatic f = fresh();
        f.dimension(0, 0, 9);
        f.common(0, 0, 0);
        f.equivalence(0, fixed(0, 4), fixed(1, 1));
        compiles("a name inside another", f, OK);
        due("extent", extent(f, 0), 9);
    }

    private void emptyExtents() {
        FortranStatic f = fresh();
        f.dimension(0, 0, 16);
        f.equivalence(0, fixed(0, 16), fixed(1, 1));
        f.common(2, 1, 3);
        compiles("one block used", f, OK);
        for (int block = 0; block <= 3; block++) {
            due("extent of block " + block, extent(f, block), block == 1 ? 1 : 0);
        }
        FortranStatic g = fresh();
        compiles("no block used", g, OK);
        for (int block = 0; block <= 3; block++) {
            due("extent of block " + block, extent(g, block), 0);
        }
    }

    private void overlaps() {
        int[] edges = {0, 1, 2, 3, 5};
        for (int i : edges) {
            for (int j : edges) {
                if (j <= 3) {
                    overlap(i, j);
                }
            }
        }
    }

    /** Name 1 has 5 elements, name 2 has 3. */
    private void overlap(int i, int j) {
        FortranStatic f = fresh();
        f.dimension(1, 1, 5);
        f.dimension(1, 2, 3);
        f.equivalence(1, fixed(1, i), fixed(2, j));
        for (int a = 1; a <= 5; a++) {
            add(f, 1, 0, ASSIGN, ADD, fixed(1, a), a, 0);
        }
        for (int b = 1; b <= 3; b++) {
            add(f, 1, 0, ASSIGN, ADD, fixed(2, b), fixed(2, b), 10);
        }
        add(f, 0, 0, CALL, 1);
        runs("n1(" + i + ") = n2(" + j + ")", f, 20, DONE, 9);
        int shift = Math.max(1, i) - Math.max(1, j);
        for (int a = 1; a <= 5; a++) {
            for (int b = 1; b <= 3; b++) {
                due("n1(" + a + ") and n2(" + b + ")", f.aliased(1, fixed(1, a), 1, fixed(2, b)), a == b + shift);
            }
            due("n1(" + a + ")", f.value(1, fixed(1, a)), a - shift >= 1 && a - shift <= 3 ? a + 10 : a);
        }
        for (int b = 1; b <= 3; b++) {
            due("n2(" + b + ")", f.value(1, fixed(2, b)), b + shift >= 1 && b + shift <= 5 ? b + shift + 10 : 10);
        }
    }

    private void blockPositions() {
        FortranStatic f = fresh();
        f.dimension(0, 0, 3);
        f.dimension(0, 1, 2);
        f.common(0, 2, 0);
        f.common(0, 2, 1);
        for (int unit = 1; unit <= 3; unit++) {
            f.dimension(unit, 5, unit);
            f.dimension(unit, 6, 7 - unit);
            f.common(unit, 2, 5);
            f.common(unit, 2, 6);
        }
        compiles("four units", f, OK);
        int[][] lengths = {{3, 2}, {1, 6}, {2, 5}, {3, 4}};
        for (int cell = 0; cell < 4 * 2 * 8; cell++) {
            for (int other = 0; other < 4 * 2 * 8; other++) {
                int[] one = {cell / 16, cell / 8 % 2, cell % 8};
                int[] two = {other / 16, other / 8 % 2, other % 8};
                boolean inside = one[2] <= lengths[one[0]][one[1]] && two[2] <= lengths[two[0]][two[1]];
                int at = (one[1] == 1 ? lengths[one[0]][0] : 0) + Math.max(1, one[2]);
                int otherAt = (two[1] == 1 ? lengths[two[0]][0] : 0) + Math.max(1, two[2]);
                int a = fixed(one[0] == 0 ? one[1] : 5 + one[1], one[2]);
                int b = fixed(two[0] == 0 ? two[1] : 5 + two[1], two[2]);
                due(a + " of " + one[0] + " and " + b + " of " + two[0], f.aliased(one[0], a, two[0], b), inside && at == otherAt);
            }
        }
    }

    private void connectionByConstraintsAlone() {
        // Names of one block that share no cell are connected all the same.
        FortranStatic f = fresh();
        f.dimension(0, 1, 4);
        f.common(0, 0, 0);
        f.common(0, 0, 2);
        f.common(1, 1, 0);
        f.equivalence(0, fixed(2, 1), fixed(1, 4));
        compiles("tied to the second name of a block, before the first", f, BACKWARD);
        // The cells of two blocks never meet, but a name that shares a cell with neither joins them.
        FortranStatic g = fresh();
        g.dimension(0, 1, 16);
        g.dimension(0, 2, 16);
        g.common(0, 0, 0);
        g.common(0, 1, 3);
        g.equivalence(0, fixed(0, 1), fixed(1, 1));
        g.equivalence(0, fixed(1, 16), fixed(2, 1));
        g.equivalence(0, fixed(2, 16), fixed(3, 1));
        compiles("two blocks far apart on one chain", g, CONFLICT);
        // No statement and no argument connects anything.
        FortranStatic h = fresh();
        h.parameters(1, 1);
        h.common(1, 2, 3);
        add(h, 0, 0, CALL, 1 + 4, fixed(0, 1));
        add(h, 1, 0, ASSIGN, ADD, fixed(3, 1), fixed(0, 1), 1);
        runs("an argument", h, 10, DONE, 2);
        due("an argument", h.aliased(0, fixed(0, 1), 1, fixed(3, 1)), false);
        due("extent", extent(h, 2), 1);
    }

    private void anyOrderOfConstraints() {
        // The same three constraints in every order, each said in both ways.
        int[][] orders = {{0, 1, 2}, {0, 2, 1}, {1, 0, 2}, {1, 2, 0}, {2, 0, 1}, {2, 1, 0}};
        for (int[] order : orders) {
            for (int turned = 0; turned < 8; turned++) {
                for (int last = 2; last <= 5; last++) {
                    FortranStatic f = fresh();
                    for (int name = 0; name <= 3; name++) {
                        f.dimension(0, name, 5);
                    }
                    int[] a = {fixed(0, 5), fixed(1, 2), fixed(2, 1)};
                    int[] b = {fixed(1, 1), fixed(2, 4), fixed(3, last)};
                    for (int e : order) {
                        boolean turn = (turned >> e & 1) != 0;
                        f.equivalence(0, turn ? b[e] : a[e], turn ? a[e] : b[e]);
                    }
                    f.common(0, 3, 0);
                    // Name 0 is at 0 of the block, 1 at 4, 2 at 2, and 3 at 3 - last.
                    compiles("last " + last, f, last > 3 ? BACKWARD : OK);
                    f = fresh();
                    for (int name = 0; name <= 3; name++) {
                        f.dimension(0, name, 5);
                    }
                    for (int e : order) {
                        boolean turn = (turned >> e & 1) != 0;
                        f.equivalence(0, turn ? b[e] : a[e], turn ? a[e] : b[e]);
                    }
                    f.equivalence(0, fixed(3, 5), fixed(0, 5));
                    compiles("a ring, last " + last, f, last == 3 ? OK : CONFLICT);
                }
            }
        }
    }
}
