import java.util.ArrayList;
import java.util.HashMap;
import java.util.List;
import java.util.Map;

/**
 * A second telling of the document, written apart from the class and in another way (collections,
 * exceptions, recursion), to compare the class with on programs that nobody wrote by hand.
 */
final class Model {
    private static final class Statement {
        int unit;
        int label;
        int kind;
        int extra;
        String places = "";
        int counter;
        int savedStep;
        final List<Integer> codes = new ArrayList<>();

        int awaits() {
            return places.length() - codes.size();
        }
    }

    @SuppressWarnings("serial")
    private static final class Ended extends RuntimeException {
        final int answer;

        Ended(int answer) {
            super(null, null, false, false);
            this.answer = answer;
        }
    }

    private final int statementCapacity;
    private final int outputCapacity;
    private final int[][] lengths = new int[4][8];
    private final int[] params = new int[4];
    private final List<List<int[]>> commons = new ArrayList<>();
    private final List<int[]> equivalences = new ArrayList<>();
    private final List<Statement> statements = new ArrayList<>();
    private int compiled = 0;

    /** Position differences between connected unknowns; blocks are unknowns 32..35. */
    private final Map<Integer, Map<Integer, Integer>> apart = new HashMap<>();
    private boolean contradicted = false;

    private final Map<Integer, int[]> cells = new HashMap<>();
    private final List<Integer> outputs = new ArrayList<>();
    private final boolean[] active = new boolean[4];
    private final int[][][] bound = new int[4][3][];
    private int runAnswer = 0;
    private int steps = 0;
    private int maxSteps = 0;

    Model(int statementCapacity, int outputCapacity) {
        this.statementCapacity = Math.max(8, Math.min(64, statementCapacity));
        this.outputCapacity = Math.max(4, Math.min(32, outputCapacity));
        for (int unit = 0; unit < 4; unit++) {
            java.util.Arrays.fill(lengths[unit], 1);
            commons.add(new ArrayList<>());
        }
    }

    private static boolean in(int x, int least, int greatest) {
        return least <= x && x <= greatest;
    }

    private static boolean fixed(int code) {
        return in(code, 10000, 10799) && code % 100 <= 16;
    }

    private static boolean indexed(int code) {
        return in(code, 20000, 20799) && code % 100 <= 7;
    }

    private static int name(int code) {
        return code / 100 % 100;
    }

    private static int element(int code) {
        return Math.max(1, code % 100);
    }

    boolean dimension(int unit, int name, int length) {
        if (compiled != 0 || !in(unit, 0, 3) || !in(name, 0, 7) || !in(length, 1, 16)) {
            return false;
        }
        lengths[unit][name] = length;
        return true;
    }

    boolean parameters(int unit, int count) {
        if (compiled != 0 || !in(unit, 1, 3) || !in(count, 0, 3)) {
            return false;
        }
        params[unit] = count;
        return true;
    }

    boolean common(int unit, int block, int name) {
        if (compiled != 0 || !in(unit, 0, 3) || !in(block, 0, 3) || !in(name, 0, 7)) {
            return false;
        }
        return commons.get(unit).size() < 8 && commons.get(unit).add(new int[] {block, name});
    }

    boolean equivalence(int unit, int a, int b) {
        if (compiled != 0 || !in(unit, 0, 3) || !fixed(a) || !fixed(b)) {
            return false;
        }
        return equivalences.size() < 16 && equivalences.add(new int[] {unit, a, b});
    }

    private Statement newest() {
        return statements.isEmpty() ? new Statement() : statements.get(statements.size() - 1);
    }

    boolean statement(int unit, int label, int kind, int extra) {
        String[] tables = {null, "WVV", "VVLLL", "VLLLL", "LWVVV", "WWW", "V", "", "", ""};
        if (compiled != 0 || newest().awaits() > 0 || statements.size() >= statementCapacity) {
            return false;
        }
        if (!in(unit, 0, 3) || !in(label, 0, 99) || !in(kind, 1, 9)) {
            return false;
        }
        String places = tables[kind];
        if (kind == 1 && !in(extra, 0, 3) || kind == 3 && !in(extra, 1, 4)) {
            return false;
        } else if (kind == 5 && (!in(extra, 1, 15) || extra % 4 == 0)) {
            return false;
        } else if (kind != 1 && kind != 3 && kind != 5 && extra != 0) {
            return false;
        }
        if (kind == 3) {
            places = places.substring(0, extra + 1);
        } else if (kind == 5) {
            places = places.substring(0, extra / 4);
        }
        Statement s = new Statement();
        s.unit = unit;
        s.label = label;
        s.kind = kind;
        s.extra = extra;
        s.places = places;
        return statements.add(s);
    }

    boolean operand(int code) {
        Statement s = newest();
        if (compiled != 0 || s.awaits() == 0) {
            return false;
        }
        char place = s.places.charAt(s.codes.size());
        boolean constant = in(code, 0, 9999);
        boolean variable = fixed(code) || indexed(code);
        boolean fits = place == 'L' ? constant : place == 'W' ? variable : constant || variable;
        return fits && s.codes.add(code);
    }

    int compile() {
        if (compiled == 0) {
            compiled = judge();
        }
        return compiled;
    }

    private boolean dummy(int unit, int name) {
        return name < params[unit];
    }

    private int judge() {
        if (newest().awaits() > 0) {
            return 2;
        }
        for (int unit = 0; unit < 4; unit++) {
            for (int name = 0; name < params[unit]; name++) {
                if (lengths[unit][name] > 1) {
                    return 3;
                }
            }
            for (int[] entry : commons.get(unit)) {
                if (dummy(unit, entry[1])) {
                    return 3;
                }
            }
        }
        for (int[] e : equivalences) {
            if (dummy(e[0], name(e[1])) || dummy(e[0], name(e[2]))) {
                return 3;
            }
        }
        for (int[] e : equivalences) {
            if (element(e[1]) > lengths[e[0]][name(e[1])] || element(e[2]) > lengths[e[0]][name(e[2])]) {
                return 4;
            }
        }
        for (Statement s : statements) {
            for (int code : s.codes) {
                if (fixed(code) && element(code) > lengths[s.unit][name(code)]) {
                    return 4;
                }
            }
        }
        layOut();
        return contradicted || blocksMeet() ? 5 : backward() ? 6 : badLabels() ? 7 : badCalls() ? 8 : 1;
    }

    /** Records pos(x) - pos(y) = d and, until nothing is new, all that follows. */
    private void layOut() {
        for (int x = 0; x < 36; x++) {
            apart.put(x, new HashMap<>());
            apart.get(x).put(x, 0);
        }
        for (int unit = 0; unit < 4; unit++) {
            int[] ends = new int[4];
            for (int[] entry : commons.get(unit)) {
                relate(8 * unit + entry[1], 32 + entry[0], ends[entry[0]]);
                ends[entry[0]] += lengths[unit][entry[1]];
            }
        }
        for (int[] e : equivalences) {
            relate(8 * e[0] + name(e[1]), 8 * e[0] + name(e[2]), element(e[2]) - element(e[1]));
        }
        for (int via = 0; via < 36; via++) {
            for (int x = 0; x < 36; x++) {
                for (int y = 0; y < 36; y++) {
                    Integer first = apart.get(x).get(via);
                    Integer second = apart.get(via).get(y);
                    if (first != null && second != null) {
                        relate(x, y, first + second);
                    }
                }
            }
        }
    }

    private void relate(int x, int y, int d) {
        Integer old = apart.get(x).put(y, d);
        Integer back = apart.get(y).put(x, -d);
        contradicted |= old != null && old != d || back != null && back != -d || x == y && d != 0;
    }

    private boolean blocksMeet() {
        for (int x = 32; x < 36; x++) {
            for (int y = 32; y < 36; y++) {
                if (x != y && apart.get(x).containsKey(y)) {
                    return true;
                }
            }
        }
        return false;
    }

    private boolean backward() {
        for (int x = 0; x < 32; x++) {
            for (int block = 32; block < 36; block++) {
                if (apart.get(x).getOrDefault(block, 0) < 0) {
                    return true;
                }
            }
        }
        return false;
    }

    private List<Statement> body(int unit) {
        List<Statement> body = new ArrayList<>();
        for (Statement s : statements) {
            if (s.unit == unit) {
                body.add(s);
            }
        }
        return body;
    }

    private static int at(List<Statement> body, int label) {
        for (int i = 0; i < body.size(); i++) {
            if (body.get(i).label == label && label >= 1) {
                return i;
            }
        }
        return -1;
    }

    private boolean badLabels() {
        for (int unit = 0; unit < 4; unit++) {
            List<Statement> body = body(unit);
            for (int i = 0; i < body.size(); i++) {
                Statement s = body.get(i);
                if (s.label != 0 && at(body, s.label) != i) {
                    return true;
                }
                for (int p = 0; p < s.places.length(); p++) {
                    if (s.places.charAt(p) == 'L') {
                        int target = at(body, s.codes.get(p));
                        if (target < 0) {
                            return true;
                        }
                        int kind = body.get(target).kind;
                        if (s.kind == 4 && (target <= i || kind != 1 && kind != 5 && kind != 6 && kind != 7)) {
                            return true;
                        }
                    }
                }
            }
        }
        return false;
    }

    private boolean badCalls() {
        for (Statement s : statements) {
            if (s.kind == 5 && s.extra / 4 != params[s.extra % 4]) {
                return true;
            }
        }
        return false;
    }

    int run(int steps) {
        if (compiled != 1) {
            return 0;
        }
        this.maxSteps = Math.max(1, Math.min(5000, steps));
        this.steps = 0;
        outputs.clear();
        java.util.Arrays.fill(active, false);
        for (Statement s : statements) {
            s.counter = 0;
            s.savedStep = 0;
        }
        // One array of length 1 is one cell; each name takes it from a connected name that has it.
        cells.clear();
        for (int x = 0; x < 32; x++) {
            for (int i = 1; i <= lengths[x / 8][x % 8]; i++) {
                cells.put(100 * x + i, new int[1]);
                for (int y = 0; y < x; y++) {
                    Integer d = apart.get(x).get(y);
                    if (d != null && d + i >= 1 && d + i <= lengths[y / 8][y % 8]) {
                        cells.put(100 * x + i, cells.get(100 * y + d + i));
                    }
                }
            }
        }
        try {
            enter(0);
            runAnswer = 1;
        } catch (Ended e) {
            runAnswer = e.answer;
        }
        return runAnswer;
    }

    private void enter(int unit) {
        active[unit] = true;
        List<Statement> body = body(unit);
        int next = 0;
        while (next < body.size()) {
            if (steps == maxSteps) {
                throw new Ended(2);
            }
            steps++;
            next = execute(body, next);
        }
        active[unit] = false;
    }

    private int execute(List<Statement> body, int here) {
        Statement s = body.get(here);
        int unit = s.unit;
        if (s.kind == 1) {
            int x = read(unit, s.codes.get(1));
            int y = read(unit, s.codes.get(2));
            if (s.extra == 3 && y == 0) {
                throw new Ended(4);
            }
            cell(unit, s.codes.get(0))[0] = s.extra == 0 ? x + y : s.extra == 1 ? x - y : s.extra == 2 ? x * y : x / y;
        } else if (s.kind == 2) {
            int d = read(unit, s.codes.get(0)) - read(unit, s.codes.get(1));
            return at(body, s.codes.get(3 + Integer.signum(d)));
        } else if (s.kind == 3) {
            int v = read(unit, s.codes.get(0));
            return in(v, 1, s.extra) ? at(body, s.codes.get(v)) : here + 1;
        } else if (s.kind == 4) {
            return begin(body, here);
        } else if (s.kind == 5) {
            call(unit, s);
        } else if (s.kind == 6) {
            if (outputs.size() == outputCapacity) {
                throw new Ended(7);
            }
            outputs.add(read(unit, s.codes.get(0)));
        } else if (s.kind == 8) {
            return body.size();
        } else if (s.kind == 9) {
            throw new Ended(1);
        }
        return endOf(body, here, here);
    }

    private int begin(List<Statement> body, int here) {
        Statement s = body.get(here);
        int start = read(s.unit, s.codes.get(2));
        int limit = read(s.unit, s.codes.get(3));
        int step = read(s.unit, s.codes.get(4));
        if (step == 0) {
            throw new Ended(5);
        }
        cell(s.unit, s.codes.get(1))[0] = start;
        int trip = (limit - start + step) / step;
        s.counter = Math.max(0, trip);
        s.savedStep = step;
        return trip > 0 ? here + 1 : endOf(body, at(body, s.codes.get(0)), here);
    }

    private int endOf(List<Statement> body, int end, int from) {
        for (int i = from - 1; i >= 0; i--) {
            Statement s = body.get(i);
            if (s.kind == 4 && at(body, s.codes.get(0)) == end) {
                cell(s.unit, s.codes.get(1))[0] += s.savedStep;
                s.counter--;
                if (s.counter > 0) {
                    return i + 1;
                }
            }
        }
        return end + 1;
    }

    private void call(int unit, Statement s) {
        int callee = s.extra % 4;
        if (active[callee]) {
            throw new Ended(6);
        }
        for (int i = 0; i < s.codes.size(); i++) {
            bound[callee][i] = cell(unit, s.codes.get(i));
        }
        enter(callee);
    }

    private int read(int unit, int code) {
        return code < 10000 ? code : cell(unit, code)[0];
    }

    private int[] cell(int unit, int code) {
        int name = name(code);
        int k = fixed(code) ? element(code) : cell(unit, 10001 + 100 * (code % 100))[0];
        if (k < 1 || k > lengths[unit][name]) {
            throw new Ended(3);
        }
        return dummy(unit, name) ? bound[unit][name] : cells.get(100 * (8 * unit + name) + k);
    }

    int output(int index) {
        return in(index, 0, outputs.size() - 1) ? outputs.get(index) : 0;
    }

    private boolean stored(int unit, int code) {
        return in(unit, 0, 3) && fixed(code) && !dummy(unit, name(code)) && element(code) <= lengths[unit][name(code)];
    }

    int value(int unit, int code) {
        return runAnswer != 0 && stored(unit, code) ? cells.get(100 * (8 * unit + name(code)) + element(code))[0] : 0;
    }

    boolean aliased(int unitA, int a, int unitB, int b) {
        if (compiled != 1 || !stored(unitA, a) || !stored(unitB, b)) {
            return false;
        }
        Integer d = apart.get(8 * unitA + name(a)).get(8 * unitB + name(b));
        return d != null && d + element(a) == element(b);
    }

    int query(int kind, int a, int b) {
        switch (kind) {
            case 1: return in(a, 0, 3) && in(b, 0, 7) ? lengths[a][b] : -1;
            case 2: return in(a, 0, 3) ? params[a] : -1;
            case 3: return in(a, 0, 3) && in(b, 0, commons.get(a).size() - 1)
                ? 8 * commons.get(a).get(b)[0] + commons.get(a).get(b)[1] : -1;
            case 4: return in(a, 0, equivalences.size() - 1) && in(b, 0, 2) ? equivalences.get(a)[b] : -1;
            case 5: return in(a, 0, statements.size() - 1) ? field(statements.get(a), b) : -1;
            case 6: return newest().awaits();
            case 7: return compiled;
            case 8: return in(a, 0, 3) && compiled == 1 ? extent(32 + a) : -1;
            case 9: return runAnswer;
            case 10: return steps;
            case 11: return outputs.size();
            default: return -1;
        }
    }

    private static int field(Statement s, int b) {
        switch (b) {
            case 0: return s.unit;
            case 1: return s.label;
            case 2: return s.kind;
            case 3: return s.extra;
            default: return in(b, 4, 3 + s.codes.size()) ? s.codes.get(b - 4) : -1;
        }
    }

    private int extent(int block) {
        int extent = 0;
        for (int x = 0; x < 32; x++) {
            if (apart.get(x).containsKey(block)) {
                extent = Math.max(extent, apart.get(x).get(block) + lengths[x / 8][x % 8]);
            }
        }
        return extent;
    }
}
