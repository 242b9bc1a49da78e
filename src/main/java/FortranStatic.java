/** Holds and runs programs of a small Fortran-like language with static storage. */
public final class FortranStatic {

    public static final int K_ASSIGN = 1;
    public static final int K_IF = 2;
    public static final int K_GOTO = 3;
    public static final int K_DO = 4;
    public static final int K_CALL = 5;
    public static final int K_PRINT = 6;
    public static final int K_CONTINUE = 7;
    public static final int K_RETURN = 8;
    public static final int K_STOP = 9;

    public static final int OP_ADD = 0;
    public static final int OP_SUB = 1;
    public static final int OP_MUL = 2;
    public static final int OP_DIV = 3;

    public static final int C_OK = 1;
    public static final int C_INCOMPLETE = 2;
    public static final int C_DUMMY = 3;
    public static final int C_INDEX = 4;
    public static final int C_CONFLICT = 5;
    public static final int C_BACKWARD = 6;
    public static final int C_LABEL = 7;
    public static final int C_CALL = 8;

    public static final int RUN_REFUSED = 0;
    public static final int RUN_DONE = 1;
    public static final int RUN_STEPS = 2;
    public static final int RUN_INDEX = 3;
    public static final int RUN_DIVZERO = 4;
    public static final int RUN_ZEROSTEP = 5;
    public static final int RUN_RECURSION = 6;
    public static final int RUN_OUTPUT_FULL = 7;

    public static final int Q_LENGTH = 1;
    public static final int Q_PARAMS = 2;
    public static final int Q_COMMON = 3;
    public static final int Q_EQUIV = 4;
    public static final int Q_STMT = 5;
    public static final int Q_PENDING = 6;
    public static final int Q_COMPILED = 7;
    public static final int Q_EXTENT = 8;
    public static final int Q_RUN = 9;
    public static final int Q_STEPS = 10;
    public static final int Q_OUTPUTS = 11;

    private static final int UNITS = 4;
    private static final int NAMES = 8;
    private static final int BLOCKS = 4;
    private static final int MAX_LENGTH = 16;
    private static final int MAX_PARAMS = 3;
    private static final int MAX_LABEL = 99;
    private static final int MAX_ENTRIES = 8;
    private static final int MAX_EQUIVALENCES = 16;
    private static final int MAX_OPERANDS = 5;
    private static final int MAX_CHOICES = 4;
    private static final int MIN_STATEMENTS = 8;
    private static final int MAX_STATEMENTS = 64;
    private static final int MIN_OUTPUTS = 4;
    private static final int MAX_OUTPUTS = 32;
    private static final int MAX_STEPS = 5000;

    /** All names of all units; name n of unit u is slot u * NAMES + n. */
    private static final int SLOTS = 32;
    /** The unknowns of the layout: every slot, then every block. */
    private static final int UNKNOWNS = 36;
    /** Every element that any slot can have. */
    private static final int ELEMENTS = 512;
    /** All COMMON entries of all units. */
    private static final int ENTRIES = 32;
    /** All operands of all statements. */
    private static final int OPERANDS = 320;

    private static final int FIXED_BASE = 10000;
    private static final int INDEXED_BASE = 20000;
    private static final int NAME_WEIGHT = 100;

    private static final int VALUE_PLACE = 0;
    private static final int VARIABLE_PLACE = 1;
    private static final int LABEL_PLACE = 2;

    private static final int NONE = -1;
    /** Far above what a run can need: a step costs at most 4 turns (itself, a return, two ends). */
    private static final int TURN_BOUND = 1000000;

    private final int statementCapacity;
    private final int outputCapacity;

    private final int[] lengths = new int[SLOTS];
    private final int[] parameterCounts = new int[UNITS];
    private final int[] entryCounts = new int[UNITS];
    private final int[] entries = new int[ENTRIES];
    private final int[] equivalenceUnits = new int[MAX_EQUIVALENCES];
    private final int[] equivalenceFirsts = new int[MAX_EQUIVALENCES];
    private final int[] equivalenceSeconds = new int[MAX_EQUIVALENCES];
    private int equivalenceCount = 0;

    private final int[] units = new int[MAX_STATEMENTS];
    private final int[] labels = new int[MAX_STATEMENTS];
    private final int[] kinds = new int[MAX_STATEMENTS];
    private final int[] extras = new int[MAX_STATEMENTS];
    private final int[] givenCounts = new int[MAX_STATEMENTS];
    private final int[] operands = new int[OPERANDS];
    private int statementCount = 0;

    private int compileAnswer = 0;
    private final int[] groups = new int[UNKNOWNS];
    private final int[] positions = new int[UNKNOWNS];
    /** The cell of every element; a dummy's entry is rewritten by each CALL that binds it. */
    private final int[] elementCells = new int[ELEMENTS];

    private final int[] cells = new int[ELEMENTS];
    private final int[] outputs = new int[MAX_OUTPUTS];
    private int outputCount = 0;
    private int stepCount = 0;
    /** RUN_REFUSED while a run goes on, and before the first one. */
    private int runAnswer = RUN_REFUSED;

    private final int[] tripCounters = new int[MAX_STATEMENTS];
    private final int[] savedSteps = new int[MAX_STATEMENTS];
    private final boolean[] activeUnits = new boolean[UNITS];
    private final int[] callSites = new int[UNITS];
    private int currentUnit = 0;
    private int nextStatement = 0;
    /** The statement whose end processing is due, or NONE. */
    private int endStatement = NONE;
    private int endStart = 0;

    public FortranStatic(int statementCapacity, int outputCapacity) {
        this.statementCapacity = clamp(statementCapacity, MIN_STATEMENTS, MAX_STATEMENTS);
        this.outputCapacity = clamp(outputCapacity, MIN_OUTPUTS, MAX_OUTPUTS);
        for (int slot = 0; slot < SLOTS; slot++) {
            lengths[slot] = 1;
        }
    }

    // ---- declarations ----

    public boolean dimension(int unit, int name, int length) {
        if (isFrozen() || !isUnit(unit) || !isName(name) || length < 1 || length > MAX_LENGTH) {
            return false;
        }
        lengths[unit * NAMES + name] = length;
        return true;
    }

    public boolean parameters(int unit, int count) {
        if (isFrozen() || !isUnit(unit) || unit == 0 || count < 0 || count > MAX_PARAMS) {
            return false;
        }
        parameterCounts[unit] = count;
        return true;
    }

    public boolean common(int unit, int block, int name) {
        if (isFrozen() || !isUnit(unit) || !isBlock(block) || !isName(name)) {
            return false;
        }
        if (entryCounts[unit] >= MAX_ENTRIES) {
            return false;
        }
        entries[unit * MAX_ENTRIES + entryCounts[unit]] = block * NAMES + name;
        entryCounts[unit]++;
        return true;
    }

    public boolean equivalence(int unit, int a, int b) {
        if (isFrozen() || !isUnit(unit) || !isFixed(a) || !isFixed(b)) {
            return false;
        }
        if (equivalenceCount >= MAX_EQUIVALENCES) {
            return false;
        }
        equivalenceUnits[equivalenceCount] = unit;
        equivalenceFirsts[equivalenceCount] = a;
        equivalenceSeconds[equivalenceCount] = b;
        equivalenceCount++;
        return true;
    }

    // ---- statements ----

    public boolean statement(int unit, int label, int kind, int extra) {
        if (isFrozen() || awaitedOperands() > 0 || statementCount >= statementCapacity) {
            return false;
        }
        if (!isUnit(unit) || label < 0 || label > MAX_LABEL || !isExtra(kind, extra)) {
            return false;
        }
        units[statementCount] = unit;
        labels[statementCount] = label;
        kinds[statementCount] = kind;
        extras[statementCount] = extra;
        givenCounts[statementCount] = 0;
        statementCount++;
        return true;
    }

    public boolean operand(int code) {
        if (isFrozen() || awaitedOperands() == 0) {
            return false;
        }
        int newest = statementCount - 1;
        int place = givenCounts[newest];
        int asked = placeKind(kinds[newest], place);
        if (!isAllowed(code, asked)) {
            return false;
        }
        operands[newest * MAX_OPERANDS + place] = code;
        givenCounts[newest]++;
        return true;
    }

    private int awaitedOperands() {
        if (statementCount == 0) {
            return 0;
        }
        int newest = statementCount - 1;
        int places = placeCount(kinds[newest], extras[newest]);
        return places - givenCounts[newest];
    }

    private static boolean isExtra(int kind, int extra) {
        switch (kind) {
            case K_ASSIGN:
                return extra >= OP_ADD && extra <= OP_DIV;
            case K_GOTO:
                return extra >= 1 && extra <= MAX_CHOICES;
            case K_CALL:
                return extra >= 0 && extra < UNITS * (MAX_PARAMS + 1) && extra % UNITS != 0;
            default:
                return kind >= K_ASSIGN && kind <= K_STOP && extra == 0;
        }
    }

    private static int placeCount(int kind, int extra) {
        switch (kind) {
            case K_ASSIGN:
                return 3;
            case K_IF:
            case K_DO:
                return 5;
            case K_GOTO:
                return 1 + extra;
            case K_CALL:
                return extra / UNITS;
            case K_PRINT:
                return 1;
            default:
                return 0;
        }
    }

    private static int placeKind(int kind, int place) {
        switch (kind) {
            case K_ASSIGN:
                return place == 0 ? VARIABLE_PLACE : VALUE_PLACE;
            case K_IF:
                return place < 2 ? VALUE_PLACE : LABEL_PLACE;
            case K_GOTO:
                return place == 0 ? VALUE_PLACE : LABEL_PLACE;
            case K_DO:
                return place == 0 ? LABEL_PLACE : place == 1 ? VARIABLE_PLACE : VALUE_PLACE;
            case K_CALL:
                return VARIABLE_PLACE;
            default:
                return VALUE_PLACE;
        }
    }

    private static boolean isAllowed(int code, int placeKind) {
        if (placeKind == LABEL_PLACE) {
            return isConstant(code);
        }
        if (placeKind == VARIABLE_PLACE) {
            return isFixed(code) || isIndexed(code);
        }
        return isConstant(code) || isFixed(code) || isIndexed(code);
    }

    // ---- compile ----

    public int compile() {
        if (compileAnswer == 0) {
            compileAnswer = judgeProgram();
            if (compileAnswer == C_OK) {
                assignCells();
            }
        }
        return compileAnswer;
    }

    private int judgeProgram() {
        if (awaitedOperands() > 0) {
            return C_INCOMPLETE;
        }
        if (declaresDummy()) {
            return C_DUMMY;
        }
        if (exceedsLength()) {
            return C_INDEX;
        }
        if (!solveLayout() || joinsBlocks()) {
            return C_CONFLICT;
        }
        if (reachesBackward()) {
            return C_BACKWARD;
        }
        if (hasRepeatedLabel() || hasWrongTarget()) {
            return C_LABEL;
        }
        return hasWrongCall() ? C_CALL : C_OK;
    }

    private boolean declaresDummy() {
        for (int slot = 0; slot < SLOTS; slot++) {
            if (isDummy(slot) && lengths[slot] > 1) {
                return true;
            }
        }
        for (int unit = 0; unit < UNITS; unit++) {
            for (int i = 0; i < entryCounts[unit]; i++) {
                int name = entries[unit * MAX_ENTRIES + i] % NAMES;
                if (isDummy(unit * NAMES + name)) {
                    return true;
                }
            }
        }
        for (int e = 0; e < equivalenceCount; e++) {
            int first = slotOf(equivalenceUnits[e], equivalenceFirsts[e]);
            int second = slotOf(equivalenceUnits[e], equivalenceSeconds[e]);
            if (isDummy(first) || isDummy(second)) {
                return true;
            }
        }
        return false;
    }

    private boolean exceedsLength() {
        for (int e = 0; e < equivalenceCount; e++) {
            int unit = equivalenceUnits[e];
            if (isTooFar(unit, equivalenceFirsts[e]) || isTooFar(unit, equivalenceSeconds[e])) {
                return true;
            }
        }
        for (int s = 0; s < statementCount; s++) {
            for (int place = 0; place < givenCounts[s]; place++) {
                int code = operands[s * MAX_OPERANDS + place];
                if (isFixed(code) && isTooFar(units[s], code)) {
                    return true;
                }
            }
        }
        return false;
    }

    // No dummy is looked at apart: the C_DUMMY check has left every dummy with length 1.
    private boolean isTooFar(int unit, int fixedCode) {
        return elementOf(fixedCode) > lengths[slotOf(unit, fixedCode)];
    }

    private boolean solveLayout() {
        for (int unknown = 0; unknown < UNKNOWNS; unknown++) {
            groups[unknown] = unknown;
            positions[unknown] = 0;
        }
        for (int unit = 0; unit < UNITS; unit++) {
            if (!placeEntries(unit)) {
                return false;
            }
        }
        for (int e = 0; e < equivalenceCount; e++) {
            int first = slotOf(equivalenceUnits[e], equivalenceFirsts[e]);
            int second = slotOf(equivalenceUnits[e], equivalenceSeconds[e]);
            int distance = elementOf(equivalenceSeconds[e]) - elementOf(equivalenceFirsts[e]);
            if (!constrain(first, second, distance)) {
                return false;
            }
        }
        return true;
    }

    private boolean placeEntries(int unit) {
        for (int block = 0; block < BLOCKS; block++) {
            int offset = 0;
            for (int i = 0; i < entryCounts[unit]; i++) {
                int entry = entries[unit * MAX_ENTRIES + i];
                if (entry / NAMES == block) {
                    int slot = unit * NAMES + entry % NAMES;
                    if (!constrain(slot, SLOTS + block, offset)) {
                        return false;
                    }
                    offset += lengths[slot];
                }
            }
        }
        return true;
    }

    /** Demands positions[moved] = positions[anchor] + distance; false if that contradicts an earlier demand. */
    private boolean constrain(int moved, int anchor, int distance) {
        int shift = positions[anchor] + distance - positions[moved];
        int oldGroup = groups[moved];
        int newGroup = groups[anchor];
        if (oldGroup == newGroup) {
            return shift == 0;
        }
        for (int unknown = 0; unknown < UNKNOWNS; unknown++) {
            if (groups[unknown] == oldGroup) {
                groups[unknown] = newGroup;
                positions[unknown] += shift;
            }
        }
        return true;
    }

    private boolean joinsBlocks() {
        for (int block = 1; block < BLOCKS; block++) {
            for (int earlier = 0; earlier < block; earlier++) {
                if (groups[SLOTS + block] == groups[SLOTS + earlier]) {
                    return true;
                }
            }
        }
        return false;
    }

    private boolean reachesBackward() {
        for (int block = 0; block < BLOCKS; block++) {
            for (int slot = 0; slot < SLOTS; slot++) {
                boolean connected = groups[slot] == groups[SLOTS + block];
                if (connected && positions[slot] < positions[SLOTS + block]) {
                    return true;
                }
            }
        }
        return false;
    }

    private boolean hasRepeatedLabel() {
        for (int s = 1; s < statementCount; s++) {
            for (int earlier = 0; earlier < s; earlier++) {
                boolean sameLabel = labels[s] == labels[earlier] && labels[s] != 0;
                if (sameLabel && units[s] == units[earlier]) {
                    return true;
                }
            }
        }
        return false;
    }

    private boolean hasWrongTarget() {
        for (int s = 0; s < statementCount; s++) {
            for (int place = 0; place < givenCounts[s]; place++) {
                if (placeKind(kinds[s], place) == LABEL_PLACE) {
                    int target = findLabel(units[s], operands[s * MAX_OPERANDS + place]);
                    if (target == NONE || kinds[s] == K_DO && !canEndLoop(target, s)) {
                        return true;
                    }
                }
            }
        }
        return false;
    }

    private boolean canEndLoop(int target, int loop) {
        int kind = kinds[target];
        boolean plain = kind == K_ASSIGN || kind == K_CALL || kind == K_PRINT || kind == K_CONTINUE;
        return plain && target > loop;
    }

    private boolean hasWrongCall() {
        for (int s = 0; s < statementCount; s++) {
            boolean isCall = kinds[s] == K_CALL;
            if (isCall && extras[s] / UNITS != parameterCounts[extras[s] % UNITS]) {
                return true;
            }
        }
        return false;
    }

    /** Elements that are the same cell all get the number of the first of them. */
    private void assignCells() {
        for (int slot = 0; slot < SLOTS; slot++) {
            for (int element = 1; element <= MAX_LENGTH; element++) {
                elementCells[slot * MAX_LENGTH + element - 1] = firstSameElement(slot, element);
            }
        }
    }

    private int firstSameElement(int slot, int element) {
        if (element <= lengths[slot]) {
            for (int other = 0; other < slot; other++) {
                int otherElement = positions[slot] + element - positions[other];
                boolean inside = otherElement >= 1 && otherElement <= lengths[other];
                if (groups[other] == groups[slot] && inside) {
                    return other * MAX_LENGTH + otherElement - 1;
                }
            }
        }
        return slot * MAX_LENGTH + element - 1;
    }

    // ---- run ----

    public int run(int maxSteps) {
        if (compileAnswer != C_OK) {
            return RUN_REFUSED;
        }
        int stepLimit = clamp(maxSteps, 1, MAX_STEPS);
        startAfresh();
        for (int turn = 0; turn < TURN_BOUND && runAnswer == RUN_REFUSED; turn++) {
            if (endStatement != NONE) {
                processEnd();
            } else if (nextStatement >= statementCount) {
                leaveUnit();
            } else if (stepCount >= stepLimit) {
                runAnswer = RUN_STEPS;
            } else {
                stepCount++;
                execute(nextStatement);
            }
        }
        return runAnswer;
    }

    private void startAfresh() {
        for (int cell = 0; cell < ELEMENTS; cell++) {
            cells[cell] = 0;
        }
        for (int s = 0; s < MAX_STATEMENTS; s++) {
            tripCounters[s] = 0;
            savedSteps[s] = 0;
        }
        for (int unit = 0; unit < UNITS; unit++) {
            activeUnits[unit] = false;
        }
        outputCount = 0;
        stepCount = 0;
        runAnswer = RUN_REFUSED;
        endStatement = NONE;
        enterUnit(0);
    }

    private void enterUnit(int unit) {
        activeUnits[unit] = true;
        currentUnit = unit;
        nextStatement = nextOfUnit(unit, 0);
    }

    private void leaveUnit() {
        if (currentUnit == 0) {
            runAnswer = RUN_DONE;
            return;
        }
        int call = callSites[currentUnit];
        activeUnits[currentUnit] = false;
        currentUnit = units[call];
        finish(call);
    }

    private void execute(int s) {
        switch (kinds[s]) {
            case K_ASSIGN:
                executeAssign(s);
                break;
            case K_IF:
                executeIf(s);
                break;
            case K_GOTO:
                executeGoto(s);
                break;
            case K_DO:
                executeDo(s);
                break;
            case K_CALL:
                executeCall(s);
                break;
            case K_PRINT:
                executePrint(s);
                break;
            case K_RETURN:
                leaveUnit();
                break;
            case K_STOP:
                runAnswer = RUN_DONE;
                break;
            default:
                finish(s);
                break;
        }
    }

    private void executeAssign(int s) {
        int x = readOperand(s, 1);
        if (runAnswer != RUN_REFUSED) {
            return;
        }
        int y = readOperand(s, 2);
        if (runAnswer != RUN_REFUSED) {
            return;
        }
        if (extras[s] == OP_DIV && y == 0) {
            runAnswer = RUN_DIVZERO;
            return;
        }
        int cell = findCell(operands[s * MAX_OPERANDS]);
        if (cell == NONE) {
            return;
        }
        cells[cell] = combine(extras[s], x, y);
        finish(s);
    }

    // The caller has refused a zero divisor; the guard here keeps the division safe on its own.
    private static int combine(int operator, int x, int y) {
        switch (operator) {
            case OP_ADD:
                return x + y;
            case OP_SUB:
                return x - y;
            case OP_MUL:
                return x * y;
            default:
                return y == 0 ? 0 : x / y;
        }
    }

    private void executeIf(int s) {
        int a = readOperand(s, 0);
        if (runAnswer != RUN_REFUSED) {
            return;
        }
        int b = readOperand(s, 1);
        if (runAnswer != RUN_REFUSED) {
            return;
        }
        // The wrapped difference decides, which is not the same as comparing a with b.
        int difference = a - b;
        goToLabel(s, difference < 0 ? 2 : difference == 0 ? 3 : 4);
    }

    private void executeGoto(int s) {
        int choice = readOperand(s, 0);
        if (runAnswer != RUN_REFUSED) {
            return;
        }
        if (choice >= 1 && choice <= extras[s]) {
            goToLabel(s, choice);
        } else {
            nextStatement = nextOfUnit(currentUnit, s + 1);
        }
    }

    private void executeDo(int s) {
        int start = readOperand(s, 2);
        if (runAnswer != RUN_REFUSED) {
            return;
        }
        int limit = readOperand(s, 3);
        if (runAnswer != RUN_REFUSED) {
            return;
        }
        int step = readOperand(s, 4);
        if (runAnswer != RUN_REFUSED) {
            return;
        }
        if (step == 0) {
            runAnswer = RUN_ZEROSTEP;
            return;
        }
        int cell = findCell(operands[s * MAX_OPERANDS + 1]);
        if (cell == NONE) {
            return;
        }
        cells[cell] = start;
        int trip = (limit - start + step) / step;
        tripCounters[s] = trip > 0 ? trip : 0;
        savedSteps[s] = step;
        if (trip > 0) {
            nextStatement = nextOfUnit(currentUnit, s + 1);
        } else {
            endStatement = findLabel(currentUnit, operands[s * MAX_OPERANDS]);
            endStart = s;
        }
    }

    private void executeCall(int s) {
        int callee = extras[s] % UNITS;
        if (activeUnits[callee]) {
            runAnswer = RUN_RECURSION;
            return;
        }
        for (int place = 0; place < givenCounts[s]; place++) {
            int cell = findCell(operands[s * MAX_OPERANDS + place]);
            if (cell == NONE) {
                return;
            }
            elementCells[(callee * NAMES + place) * MAX_LENGTH] = cell;
        }
        callSites[callee] = s;
        enterUnit(callee);
    }

    private void executePrint(int s) {
        if (outputCount >= outputCapacity) {
            runAnswer = RUN_OUTPUT_FULL;
            return;
        }
        int printed = readOperand(s, 0);
        if (runAnswer != RUN_REFUSED) {
            return;
        }
        outputs[outputCount] = printed;
        outputCount++;
        finish(s);
    }

    // End processing of a statement that ends no DO just goes on, so Done needs no case of its own.
    private void finish(int s) {
        endStatement = s;
        endStart = s;
    }

    private void processEnd() {
        int ended = endStatement;
        endStatement = NONE;
        for (int s = endStart - 1; s >= 0; s--) {
            if (isLoopEndedBy(s, ended)) {
                int cell = findCell(operands[s * MAX_OPERANDS + 1]);
                if (cell == NONE) {
                    return;
                }
                cells[cell] += savedSteps[s];
                tripCounters[s]--;
                if (tripCounters[s] > 0) {
                    nextStatement = nextOfUnit(currentUnit, s + 1);
                    return;
                }
            }
        }
        nextStatement = nextOfUnit(currentUnit, ended + 1);
    }

    private boolean isLoopEndedBy(int s, int ended) {
        boolean isLoop = kinds[s] == K_DO && units[s] == units[ended];
        return isLoop && operands[s * MAX_OPERANDS] == labels[ended];
    }

    private void goToLabel(int s, int place) {
        nextStatement = findLabel(currentUnit, operands[s * MAX_OPERANDS + place]);
    }

    /** The value of an operand; the caller looks at runAnswer before it trusts the answer. */
    private int readOperand(int s, int place) {
        int code = operands[s * MAX_OPERANDS + place];
        if (code < FIXED_BASE) {
            return code;
        }
        int cell = findCell(code);
        return cell == NONE ? 0 : cells[cell];
    }

    /** The cell of a variable code in the current unit; NONE if an index ended the run. */
    private int findCell(int code) {
        int slot = slotOf(currentUnit, code);
        int element;
        if (code >= INDEXED_BASE) {
            int indexSlot = currentUnit * NAMES + code % NAME_WEIGHT;
            element = cells[elementCells[indexSlot * MAX_LENGTH]];
        } else {
            element = elementOf(code);
        }
        if (element < 1 || element > lengths[slot]) {
            runAnswer = RUN_INDEX;
            return NONE;
        }
        return elementCells[slot * MAX_LENGTH + element - 1];
    }

    /** The first statement of unit at or after index from; statementCount if there is none. */
    private int nextOfUnit(int unit, int from) {
        for (int s = from; s < statementCount; s++) {
            if (units[s] == unit) {
                return s;
            }
        }
        return statementCount;
    }

    /** The statement of unit with this label, or NONE; 0 is no label. */
    private int findLabel(int unit, int label) {
        for (int s = 0; s < statementCount; s++) {
            if (label != 0 && labels[s] == label && units[s] == unit) {
                return s;
            }
        }
        return NONE;
    }

    // ---- getters ----

    public int output(int index) {
        return index >= 0 && index < outputCount ? outputs[index] : 0;
    }

    public int value(int unit, int code) {
        if (runAnswer == RUN_REFUSED) {
            return 0;
        }
        int cell = storedCell(unit, code);
        return cell == NONE ? 0 : cells[cell];
    }

    public boolean aliased(int unitA, int a, int unitB, int b) {
        if (compileAnswer != C_OK) {
            return false;
        }
        int cellA = storedCell(unitA, a);
        int cellB = storedCell(unitB, b);
        return cellA != NONE && cellA == cellB;
    }

    /** The cell of an element of a stored name, or NONE; has a meaning only after C_OK. */
    private int storedCell(int unit, int code) {
        if (!isUnit(unit) || !isFixed(code)) {
            return NONE;
        }
        int slot = slotOf(unit, code);
        int element = elementOf(code);
        if (isDummy(slot) || element > lengths[slot]) {
            return NONE;
        }
        return elementCells[slot * MAX_LENGTH + element - 1];
    }

    public int query(int kind, int a, int b) {
        switch (kind) {
            case Q_LENGTH:
                return isUnit(a) && isName(b) ? lengths[a * NAMES + b] : -1;
            case Q_PARAMS:
                return isUnit(a) ? parameterCounts[a] : -1;
            case Q_COMMON:
                return entryAt(a, b);
            case Q_EQUIV:
                return equivalenceField(a, b);
            case Q_STMT:
                return statementField(a, b);
            case Q_PENDING:
                return awaitedOperands();
            case Q_COMPILED:
                return compileAnswer;
            case Q_EXTENT:
                return isBlock(a) && compileAnswer == C_OK ? extentOf(a) : -1;
            case Q_RUN:
                return runAnswer;
            case Q_STEPS:
                return stepCount;
            case Q_OUTPUTS:
                return outputCount;
            default:
                return -1;
        }
    }

    private int entryAt(int unit, int index) {
        if (!isUnit(unit) || index < 0 || index >= entryCounts[unit]) {
            return -1;
        }
        return entries[unit * MAX_ENTRIES + index];
    }

    private int equivalenceField(int index, int field) {
        if (index < 0 || index >= equivalenceCount) {
            return -1;
        }
        switch (field) {
            case 0:
                return equivalenceUnits[index];
            case 1:
                return equivalenceFirsts[index];
            case 2:
                return equivalenceSeconds[index];
            default:
                return -1;
        }
    }

    private int statementField(int index, int field) {
        if (index < 0 || index >= statementCount) {
            return -1;
        }
        switch (field) {
            case 0:
                return units[index];
            case 1:
                return labels[index];
            case 2:
                return kinds[index];
            case 3:
                return extras[index];
            default:
                return operandAt(index, field);
        }
    }

    private int operandAt(int index, int field) {
        if (field < 4 || field >= 4 + MAX_OPERANDS || field - 4 >= givenCounts[index]) {
            return -1;
        }
        return operands[index * MAX_OPERANDS + field - 4];
    }

    private int extentOf(int block) {
        int extent = 0;
        for (int slot = 0; slot < SLOTS; slot++) {
            int end = positions[slot] + lengths[slot] - positions[SLOTS + block];
            if (groups[slot] == groups[SLOTS + block] && end > extent) {
                extent = end;
            }
        }
        return extent;
    }

    // ---- ranges and codes ----

    private boolean isFrozen() {
        return compileAnswer != 0;
    }

    private boolean isDummy(int slot) {
        return slot % NAMES < parameterCounts[slot / NAMES];
    }

    private static boolean isUnit(int unit) {
        return unit >= 0 && unit < UNITS;
    }

    private static boolean isName(int name) {
        return name >= 0 && name < NAMES;
    }

    private static boolean isBlock(int block) {
        return block >= 0 && block < BLOCKS;
    }

    private static boolean isConstant(int code) {
        return code >= 0 && code < FIXED_BASE;
    }

    private static boolean isFixed(int code) {
        boolean named = code >= FIXED_BASE && code < FIXED_BASE + NAMES * NAME_WEIGHT;
        return named && code % NAME_WEIGHT <= MAX_LENGTH;
    }

    private static boolean isIndexed(int code) {
        boolean named = code >= INDEXED_BASE && code < INDEXED_BASE + NAMES * NAME_WEIGHT;
        return named && code % NAME_WEIGHT < NAMES;
    }

    /** The slot of the name in a variable code of unit. */
    private static int slotOf(int unit, int code) {
        return unit * NAMES + code % FIXED_BASE / NAME_WEIGHT;
    }

    private static int elementOf(int fixedCode) {
        int element = fixedCode % NAME_WEIGHT;
        return element == 0 ? 1 : element;
    }

    private static int clamp(int given, int least, int greatest) {
        return given < least ? least : given > greatest ? greatest : given;
    }
}
