import java.util.Random;

/** All promises: the class and the Model answer alike, call by call, on many made-up programs. */
public final class ModelTest {
    private static final int PROGRAMS = 12000;
    private static final int[] ODD = {Integer.MIN_VALUE, -1, 4, 8, 16, 17, 99, 100, 9999, 10800, 20008, Integer.MAX_VALUE};

    private final Check check = new Check();
    private final Random random;
    private final StringBuilder calls = new StringBuilder();
    private FortranStatic f;
    private Model m;
    /** How often, in a hundred, something is chosen without care for what would be accepted. */
    private int carelessness;
    /** How often, in a hundred, a variable is indexed; most such programs end early. */
    private int indexing;

    private static final int[] compiled = new int[9];
    private static final int[] ended = new int[8];

    private ModelTest(long seed) {
        random = new Random(seed);
    }

    public static void main(String[] args) {
        for (int seed = 0; seed < PROGRAMS; seed++) {
            ModelTest test = new ModelTest(seed);
            test.compare();
            if (test.check.failed()) {
                System.out.println("program " + seed + ":\n" + test.calls);
                System.exit(1);
            }
        }
        // A comparison that never came to some answer would show nothing about it.
        Check reached = new Check();
        for (int answer = 1; answer <= 8; answer++) {
            reached.due("programs enough with compile answer " + answer, compiled[answer] >= 50, true);
        }
        for (int answer = 0; answer <= 7; answer++) {
            reached.due("runs enough with answer " + answer, ended[answer] >= 50, true);
        }
        reached.end();
    }

    private void compare() {
        int statementCapacity = random.nextInt(80) - 5;
        int outputCapacity = random.nextInt(40) - 3;
        calls.append("new FortranStatic(").append(statementCapacity).append(", ").append(outputCapacity).append(")\n");
        f = new FortranStatic(statementCapacity, outputCapacity);
        m = new Model(statementCapacity, outputCapacity);
        int[] cares = {0, 0, 0, 0, 1, 3, 20};
        carelessness = cares[random.nextInt(cares.length)];
        int[] indexings = {0, 2, 5, 30};
        indexing = indexings[random.nextInt(indexings.length)];
        declare();
        write();
        if (random.nextInt(10) == 0) {
            run(100);
        }
        if (random.nextInt(40) == 0) {
            statement(0, 0, 6, 0);
        }
        getters();
        int answer = f.compile();
        due("compile()", answer, m.compile());
        compiled[answer]++;
        declare();
        statement(0, 0, 7, 0);
        operand(0);
        getters();
        int[] limits = {Integer.MIN_VALUE, 0, 7, 60, 300, 5000, Integer.MAX_VALUE};
        for (int i = 0; i < 3; i++) {
            run(limits[random.nextInt(limits.length)]);
            getters();
        }
        due("compile()", f.compile(), m.compile());
    }

    private boolean careless() {
        return random.nextInt(100) < carelessness;
    }

    private int pick(int bound) {
        return careless() ? ODD[random.nextInt(ODD.length)] : random.nextInt(bound);
    }

    private void due(String call, int got, int want) {
        calls.append(call).append(" = ").append(want).append('\n');
        check.due(call, got, want);
    }

    private void due(String call, boolean got, boolean want) {
        due(call, got ? 1 : 0, want ? 1 : 0);
    }

    private void run(int limit) {
        int answer = f.run(limit);
        due("run(" + limit + ")", answer, m.run(limit));
        ended[answer]++;
    }

    private void dimension(int unit, int name, int length) {
        due("dimension(" + unit + ", " + name + ", " + length + ")", f.dimension(unit, name, length), m.dimension(unit, name, length));
    }

    private void parameters(int unit, int count) {
        due("parameters(" + unit + ", " + count + ")", f.parameters(unit, count), m.parameters(unit, count));
    }

    private void common(int unit, int block, int name) {
        due("common(" + unit + ", " + block + ", " + name + ")", f.common(unit, block, name), m.common(unit, block, name));
    }

    private void equivalence(int unit, int a, int b) {
        due("equivalence(" + unit + ", " + a + ", " + b + ")", f.equivalence(unit, a, b), m.equivalence(unit, a, b));
    }

    private boolean statement(int unit, int label, int kind, int extra) {
        boolean accepted = f.statement(unit, label, kind, extra);
        due("statement(" + unit + ", " + label + ", " + kind + ", " + extra + ")", accepted, m.statement(unit, label, kind, extra));
        return accepted;
    }

    private void operand(int code) {
        due("operand(" + code + ")", f.operand(code), m.operand(code));
    }

    private void declare() {
        for (int unit = 1; unit < 4; unit++) {
            parameters(unit, random.nextInt(4));
        }
        int longNames = random.nextInt(12);
        for (int i = 0; i < longNames; i++) {
            int unit = random.nextInt(4);
            int length = random.nextInt(4) == 0 ? 1 + pick(16) : 1 + pick(5);
            dimension(unit, storedName(unit), length);
        }
        int entries = random.nextInt(3) == 0 ? random.nextInt(10) : random.nextInt(4);
        for (int i = 0; i < entries; i++) {
            int unit = random.nextInt(4);
            // Mostly one block for one name, so that not every longer list is a conflict.
            int name = storedName(unit);
            common(unit, random.nextInt(12) == 0 ? pick(4) : name % 4, name);
        }
        int equivalences = random.nextInt(3) == 0 ? random.nextInt(9) : random.nextInt(3);
        for (int i = 0; i < equivalences; i++) {
            int unit = random.nextInt(4);
            equivalence(unit, element(unit), element(unit));
        }
        if (random.nextInt(100) == 0) {
            for (int i = 0; i < 20; i++) {
                equivalence(i % 4, 10701, 10700);
            }
        }
    }

    private int storedName(int unit) {
        int first = careless() ? 0 : m.query(2, unit, 0);
        return first + random.nextInt(8 - first);
    }

    private int element(int unit) {
        int name = storedName(unit);
        int length = careless() ? 16 : m.query(1, unit, name);
        int code = 10000 + 100 * name + random.nextInt(length + 1);
        return careless() ? ODD[random.nextInt(ODD.length)] : code;
    }

    private int variable(int unit) {
        if (random.nextInt(100) < indexing) {
            return 20000 + 100 * pick(8) + pick(8);
        }
        int name = random.nextInt(8);
        int length = careless() ? 16 : m.query(2, unit, 0) > name ? 1 : m.query(1, unit, name);
        return 10000 + 100 * name + random.nextInt(length + 1);
    }

    private int anyValue(int unit) {
        int choice = random.nextInt(8);
        if (choice < 4) {
            return variable(unit);
        }
        return choice < 7 ? random.nextInt(6) : choice == 7 && random.nextInt(3) == 0 ? 9999 : random.nextInt(40);
    }

    /** Each unit's kinds are chosen first, then the units are written interleaved. */
    private void write() {
        int[][] kinds = new int[4][];
        int[] written = new int[4];
        int left = 0;
        for (int unit = 0; unit < 4; unit++) {
            kinds[unit] = new int[unit == 0 ? 1 + random.nextInt(14) : random.nextInt(7)];
            left += kinds[unit].length;
            int[] bag = {1, 1, 1, 1, 2, 3, 4, 4, 4, 5, 5, 6, 6, 7, 8, 9};
            for (int i = 0; i < kinds[unit].length; i++) {
                kinds[unit][i] = bag[random.nextInt(bag.length)];
                if (kinds[unit][i] > 7 && random.nextInt(3) != 0) {
                    kinds[unit][i] = 1;
                }
            }
        }
        while (left > 0) {
            int unit = random.nextInt(4);
            if (written[unit] < kinds[unit].length) {
                writeOne(unit, kinds[unit], written[unit]);
                written[unit]++;
                left--;
            }
        }
    }

    private void writeOne(int unit, int[] kinds, int i) {
        int kind = kinds[i];
        int end = kind == 4 ? laterEnd(kinds, i) : 0;
        if (end < 0) {
            kind = 7;
            kinds[i] = 7;
        }
        int label = careless() ? random.nextInt(102) - 1 : labelOf(i);
        if (careless()) {
            statement(pick(4), label, pick(10), pick(16));
        }
        int callee = 1 + random.nextInt(3);
        int count = careless() || random.nextInt(50) == 0 ? random.nextInt(4) : m.query(2, callee, 0);
        int extra = kind == 1 ? random.nextInt(4) : kind == 3 ? 1 + random.nextInt(4) : kind == 5 ? callee + 4 * count : 0;
        if (kind == 1 && extra == 3 && random.nextInt(2) == 0) {
            extra = 0;
        }
        if (!statement(unit, label, kind, extra)) {
            return;
        }
        while (m.query(6, 0, 0) > 0) {
            int given = 0;
            int index = 0;
            while (m.query(5, index + 1, 0) >= 0) {
                index++;
            }
            while (m.query(5, index, 4 + given) >= 0) {
                given++;
            }
            if (careless()) {
                operand(ODD[random.nextInt(ODD.length)]);
            } else {
                operand(codeFor(unit, kind, given, kinds.length, end));
            }
        }
    }

    private static int labelOf(int i) {
        return (i * 37 + 11) % 99 + 1;
    }

    private int laterEnd(int[] kinds, int i) {
        int found = -1;
        for (int j = i + 1; j < kinds.length; j++) {
            boolean canEnd = kinds[j] == 1 || kinds[j] == 5 || kinds[j] == 6 || kinds[j] == 7;
            if (canEnd && (found < 0 || random.nextInt(3) == 0)) {
                found = j;
            }
        }
        return careless() ? random.nextInt(kinds.length) : found;
    }

    private int codeFor(int unit, int kind, int place, int size, int end) {
        boolean isLabel = kind == 2 && place >= 2 || kind == 3 && place >= 1 || kind == 4 && place == 0;
        boolean isVariable = kind == 1 && place == 0 || kind == 4 && place == 1 || kind == 5;
        if (isLabel) {
            return careless() ? random.nextInt(120) : labelOf(kind == 4 ? end : random.nextInt(size));
        }
        if (isVariable) {
            return variable(unit);
        }
        if (kind == 4 && place == 4 && random.nextInt(3) != 0) {
            return 1 + random.nextInt(2);
        }
        return anyValue(unit);
    }

    private void getters() {
        for (int kind = 0; kind <= 12; kind++) {
            for (int a = -1; a <= 8; a++) {
                for (int b = -1; b <= 9; b++) {
                    if (kind <= 5 || kind == 8 || a == 0 && b == 0) {
                        same(kind, a, b);
                    }
                }
            }
        }
        for (int index = -1; index <= 33; index++) {
            check.due("output(" + index + ")", f.output(index), m.output(index));
        }
        for (int unit = -1; unit <= 4; unit++) {
            for (int name = 0; name < 9; name++) {
                for (int i = 0; i <= 17; i++) {
                    int code = 10000 + 100 * name + i;
                    if (f.value(unit, code) != m.value(unit, code)) {
                        due("value(" + unit + ", " + code + ")", f.value(unit, code), m.value(unit, code));
                    }
                }
            }
        }
        for (int i = 0; i < 200; i++) {
            int unitA = random.nextInt(4);
            int unitB = random.nextInt(3) == 0 ? random.nextInt(4) : unitA;
            int a = 10000 + 100 * random.nextInt(8) + random.nextInt(6);
            int b = 10000 + 100 * random.nextInt(8) + random.nextInt(6);
            if (f.aliased(unitA, a, unitB, b) != m.aliased(unitA, a, unitB, b)) {
                due("aliased(" + unitA + ", " + a + ", " + unitB + ", " + b + ")", f.aliased(unitA, a, unitB, b), m.aliased(unitA, a, unitB, b));
            }
        }
    }

    private void same(int kind, int a, int b) {
        int got = f.query(kind, a, b);
        int want = m.query(kind, a, b);
        if (got != want) {
            due("query(" + kind + ", " + a + ", " + b + ")", got, want);
        }
    }
}
