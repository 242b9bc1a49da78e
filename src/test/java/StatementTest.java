/** Promise 6: statement and operand. */
public final class StatementTest {
    private static final Check check = new Check();
    private static final char VALUE = 'V';
    private static final char VARIABLE = 'W';
    private static final char LABEL = 'L';

    public static void main(String[] args) {
        ranges();
        for (int kind = -2; kind < 13; kind++) {
            for (int extra = -20; extra < 40; extra++) {
                extras(kind, extra);
            }
            extras(kind, Integer.MIN_VALUE);
            extras(kind, Integer.MAX_VALUE);
        }
        places();
        placesOfCodes();
        refusedWhileAwaiting();
        refusedWhenFull();
        refusedOnceCompiled();
        unitsInterleave();
        check.end();
    }

    private static FortranStatic fresh() {
        return new FortranStatic(64, 8);
    }

    private static void ranges() {
        FortranStatic f = fresh();
        for (int unit = -2; unit < 7; unit++) {
            check.due("unit " + unit, f.statement(unit, 0, FortranStatic.K_STOP, 0), unit >= 0 && unit <= 3);
        }
        f = fresh();
        int[] labels = {Integer.MIN_VALUE, -1, 0, 1, 50, 99, 100, 9999, Integer.MAX_VALUE};
        for (int label : labels) {
            check.due("label " + label, f.statement(0, label, FortranStatic.K_STOP, 0), label >= 0 && label <= 99);
        }
        check.due("labels are kept", f.query(FortranStatic.Q_STMT, 3, 1), 99);
        check.due("refused ones are not", f.query(FortranStatic.Q_STMT, 4, 1), -1);
        check.due("unit too low", f.statement(Integer.MIN_VALUE, 0, FortranStatic.K_STOP, 0), false);
        check.due("unit too high", f.statement(Integer.MAX_VALUE, 0, FortranStatic.K_STOP, 0), false);
    }

    private static boolean extraIsDue(int kind, int extra) {
        if (kind == FortranStatic.K_ASSIGN) {
            return extra == 0 || extra == 1 || extra == 2 || extra == 3;
        }
        if (kind == FortranStatic.K_GOTO) {
            return extra == 1 || extra == 2 || extra == 3 || extra == 4;
        }
        if (kind == FortranStatic.K_CALL) {
            for (int s = 1; s <= 3; s++) {
                for (int c = 0; c <= 3; c++) {
                    if (extra == s + 4 * c) {
                        return true;
                    }
                }
            }
            return false;
        }
        return kind >= 1 && kind <= 9 && extra == 0;
    }

    private static String placesOf(int kind, int extra) {
        switch (kind) {
            case FortranStatic.K_ASSIGN: return "WVV";
            case FortranStatic.K_IF: return "VVLLL";
            case FortranStatic.K_GOTO: return "VLLLL".substring(0, 1 + extra);
            case FortranStatic.K_DO: return "LWVVV";
            case FortranStatic.K_CALL: return "WWW".substring(0, extra / 4);
            case FortranStatic.K_PRINT: return "V";
            default: return "";
        }
    }

    private static void extras(int kind, int extra) {
        FortranStatic f = fresh();
        boolean due = extraIsDue(kind, extra);
        check.due("kind " + kind + " with extra " + extra, f.statement(2, 7, kind, extra), due);
        check.due("its unit", f.query(FortranStatic.Q_STMT, 0, 0), due ? 2 : -1);
        check.due("its label", f.query(FortranStatic.Q_STMT, 0, 1), due ? 7 : -1);
        check.due("its kind", f.query(FortranStatic.Q_STMT, 0, 2), due ? kind : -1);
        check.due("its extra", f.query(FortranStatic.Q_STMT, 0, 3), due ? extra : -1);
        check.due("it awaits", f.query(FortranStatic.Q_PENDING, 0, 0), due ? placesOf(kind, extra).length() : 0);
    }

    private static boolean fits(char place, int code) {
        boolean constant = code >= 0 && code <= 9999;
        boolean fixed = code >= 10000 && code <= 10799 && code % 100 <= 16;
        boolean indexed = code >= 20000 && code <= 20799 && code % 100 <= 7;
        if (place == LABEL) {
            return constant;
        }
        return place == VARIABLE ? fixed || indexed : constant || fixed || indexed;
    }

    /** Every place of every kind takes what the table says, in the order of the table. */
    private static void places() {
        int[] tries = {-1, Integer.MIN_VALUE, Integer.MAX_VALUE, 10017, 10800, 20008, 20800, 20707, 10716, 9999, 0};
        for (int kind = 1; kind <= 9; kind++) {
            for (int extra = 0; extra < 16; extra++) {
                if (extraIsDue(kind, extra)) {
                    for (int code : tries) {
                        fillWith(kind, extra, code);
                    }
                }
            }
        }
    }

    private static void fillWith(int kind, int extra, int code) {
        FortranStatic f = fresh();
        String places = placesOf(kind, extra);
        f.statement(1, 0, kind, extra);
        for (int p = 0; p < places.length(); p++) {
            char place = places.charAt(p);
            String what = "kind " + kind + " extra " + extra + " place " + p;
            check.due(what + " code " + code, f.operand(code), fits(place, code));
            int kept = code;
            if (!fits(place, code)) {
                check.due(what + " after a refusal", f.query(FortranStatic.Q_STMT, 0, 4 + p), -1);
                check.due(what + " still awaits", f.query(FortranStatic.Q_PENDING, 0, 0), places.length() - p);
                kept = place == LABEL ? 10 + p : 10100 + p;
                check.due(what + " code " + kept, f.operand(kept), true);
            }
            check.due(what + " is kept", f.query(FortranStatic.Q_STMT, 0, 4 + p), kept);
            check.due(what + " then awaits", f.query(FortranStatic.Q_PENDING, 0, 0), places.length() - p - 1);
        }
        check.due("kind " + kind + " is complete", f.operand(code), false);
        check.due("kind " + kind + " is complete for constants", f.operand(1), false);
        for (int p = places.length(); p < 5; p++) {
            check.due("kind " + kind + " has no place " + p, f.query(FortranStatic.Q_STMT, 0, 4 + p), -1);
        }
        check.due("kind " + kind + " lets the next one in", f.statement(0, 0, FortranStatic.K_STOP, 0), true);
    }

    private static void placesOfCodes() {
        for (int code = -200; code < 31000; code++) {
            FortranStatic f = fresh();
            f.statement(0, 0, FortranStatic.K_PRINT, 0);
            check.due("V " + code, f.operand(code), fits(VALUE, code));
            f = fresh();
            f.statement(0, 0, FortranStatic.K_CALL, 5);
            check.due("W " + code, f.operand(code), fits(VARIABLE, code));
            f = fresh();
            f.statement(0, 0, FortranStatic.K_DO, 0);
            check.due("L " + code, f.operand(code), fits(LABEL, code));
        }
    }

    private static void refusedWhileAwaiting() {
        FortranStatic f = fresh();
        f.statement(0, 0, FortranStatic.K_ASSIGN, 0);
        for (int given = 0; given < 3; given++) {
            check.due("statement while " + (3 - given) + " are awaited", f.statement(1, 0, FortranStatic.K_STOP, 0), false);
            check.due("operand", f.operand(10000), true);
        }
        check.due("then", f.statement(1, 0, FortranStatic.K_STOP, 0), true);
        check.due("no refused one was kept", f.query(FortranStatic.Q_STMT, 1, 2), FortranStatic.K_STOP);
        check.due("no refused one was kept", f.query(FortranStatic.Q_STMT, 2, 2), -1);
        check.due("the newest awaits none", f.operand(10000), false);
    }

    private static void refusedWhenFull() {
        FortranStatic f = new FortranStatic(8, 4);
        for (int i = 0; i < 8; i++) {
            check.add(f, i % 4, 0, FortranStatic.K_PRINT, 0, i);
        }
        for (int unit = 0; unit < 4; unit++) {
            check.due("a ninth", f.statement(unit, 0, FortranStatic.K_STOP, 0), false);
        }
        check.due("the last place is filled", f.query(FortranStatic.Q_STMT, 7, 4), 7);
        check.due("none awaits", f.operand(1), false);
    }

    private static void refusedOnceCompiled() {
        FortranStatic f = fresh();
        f.compile();
        check.due("statement", f.statement(0, 0, FortranStatic.K_STOP, 0), false);
        check.due("none kept", f.query(FortranStatic.Q_STMT, 0, 0), -1);

        f = fresh();
        f.statement(0, 0, FortranStatic.K_PRINT, 0);
        check.due("incomplete", f.compile(), FortranStatic.C_INCOMPLETE);
        check.due("operand", f.operand(1), false);
        check.due("still awaited", f.query(FortranStatic.Q_PENDING, 0, 0), 1);
        check.due("not given", f.query(FortranStatic.Q_STMT, 0, 4), -1);
    }

    private static void unitsInterleave() {
        FortranStatic f = fresh();
        check.add(f, 1, 0, FortranStatic.K_PRINT, 0, 21);
        check.add(f, 0, 0, FortranStatic.K_PRINT, 0, 11);
        check.add(f, 2, 0, FortranStatic.K_PRINT, 0, 31);
        check.add(f, 0, 0, FortranStatic.K_CALL, 1);
        check.add(f, 1, 0, FortranStatic.K_PRINT, 0, 22);
        check.add(f, 0, 0, FortranStatic.K_CALL, 2);
        check.add(f, 0, 0, FortranStatic.K_PRINT, 0, 12);
        check.add(f, 2, 0, FortranStatic.K_PRINT, 0, 32);
        check.runs("interleaved", f, 100, FortranStatic.RUN_DONE, 8);
        check.printed("interleaved", f, 11, 21, 22, 31, 32, 12);
    }
}
