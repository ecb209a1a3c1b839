/**
 * A bench for scripts: it takes a row of tokens, looks it through, and works it out with a trace
 * of what the host was told.
 *
 * The scripts nest and their generators wait, but this class may not recur; so every token that is
 * being worked out has a frame of its own, and run() always goes on with the uppermost frame.
 */
public final class ScriptBench {
    public static final int OK = 0, SHAPE = 1, UNBOUND = 2, OUTSIDE = 3, VALUE = 0, THROWN = 1, LONG = 2, BAD = -1;

    private static final int NUM = 0, NIL = 1, VAR = 2, SET = 3, LET = 4, FN = 5, APP = 6;
    private static final int ADD = 7, SUB = 8, MUL = 9, DIV = 10, LESS = 11, SAME = 12;
    private static final int IF = 13, WHILE = 14, SEQ = 15, BREAK = 16, NEXT = 17, RETURN = 18, THROW = 19;
    private static final int TRY = 20, FINALLY = 21, YIELD = 22, RESUME = 23, DONE = 24, CLOSE = 25, HOST = 26;

    private static final int SORT_NIL = 0, SORT_INT = 1, SORT_LONG = 2, SORT_FUNCTION = 3, SORT_GENERATOR = 4;

    private static final int BY_ZERO = -1, TOO_BIG = -2, WRONG_SORT = -3, AT_WRONG_TIME = -4;
    private static final int TOO_DEEP = -5, TOO_MANY = -6;

    private static final int ENDS_VALUE = 0, ENDS_THROW = 1, ENDS_BREAK = 2, ENDS_NEXT = 3;
    private static final int ENDS_RETURN = 4, ENDS_CLOSING = 5;

    // The stage of a frame: which operand is being worked out. At LAST the token ends as the part
    // that is being worked out does.
    private static final int NEW = 0, FIRST = 1, SECOND = 2, LAST = 3;

    // AT_CLOSE is AT WORK for everyone outside; it differs in what YIELD and the body's end do.
    private static final int NOT_BEGUN = 0, WAITS = 1, AT_WORK = 2, ENDED = 3, AT_CLOSE = 4;

    private static final int NONE = -1;
    private static final int MOST_TOKENS = 48, NAMES = 6, MOST_STEPS = 600, MOST_NOTES = 40;
    private static final int MOST_ACTIVATIONS = 8, MOST_GENERATORS = 8;
    private static final int MOST_TURNS = 1000000;

    // Frames lie in slots: a slot for each depth of activations, and behind these a slot for each
    // generator, which keeps its frames there while it waits. The frames of one slot are tokens
    // that lie in each other, so a slot never needs more frames than there are tokens.
    private static final int SLOTS = 16, FRAMES = 768;

    private final int[] tokenKinds = new int[MOST_TOKENS];
    private final int[] tokenOperands = new int[MOST_TOKENS];
    private int tokenCount = 0;

    private final int[] kinds = new int[MOST_TOKENS];
    private final int[] operands = new int[MOST_TOKENS];
    private final int[] parents = new int[MOST_TOKENS];
    private final int[] behind = new int[MOST_TOKENS];
    private final int[] ownFns = new int[MOST_TOKENS];
    private final int[] meanings = new int[MOST_TOKENS];
    private final boolean[] generatorFns = new boolean[MOST_TOKENS];
    private int scriptSize = 0;
    private int saidPlace = NONE;

    private final int[] frameTokens = new int[FRAMES];
    private final int[] frameStages = new int[FRAMES];
    private final int[] frameScopes = new int[FRAMES];
    private final int[] keptEndings = new int[FRAMES];
    private final int[] keptSorts = new int[FRAMES];
    private final long[] keptNumbers = new long[FRAMES];
    private final int[] frameCounts = new int[SLOTS];
    private final int[] activeSlots = new int[MOST_ACTIVATIONS];
    private int activationCount = 0;

    // A scope is the number of its newest variable, which knows the variable around it. Each
    // variable and each FUNCTION needs a step of its own, so they can't outnumber the steps.
    private final int[] variableBinders = new int[MOST_STEPS];
    private final int[] variableOuters = new int[MOST_STEPS];
    private final int[] variableSorts = new int[MOST_STEPS];
    private final long[] variableNumbers = new long[MOST_STEPS];
    private int variableCount = 0;
    private final int[] functionTokens = new int[MOST_STEPS];
    private final int[] functionScopes = new int[MOST_STEPS];
    private int functionCount = 0;
    private final int[] generatorStates = new int[MOST_GENERATORS];
    private int generatorCount = 0;

    // How the part that was worked out last ended, and its value.
    private int ending = ENDS_VALUE;
    private int valueSort = SORT_NIL;
    private long valueNumber = 0;

    private final int[] noteSorts = new int[MOST_NOTES];
    private final long[] noteNumbers = new long[MOST_NOTES];
    private int noteCount = 0;
    private int stepCount = 0;
    private int latestRun = NONE;

    public ScriptBench() {
    }

    public boolean token(int kind, int operand) {
        if (tokenCount >= MOST_TOKENS || kind < NUM || kind > HOST) {
            return false;
        }
        boolean named = (kind >= VAR && kind <= FN) || kind == TRY;
        if (named && (operand < 0 || operand >= NAMES)) {
            return false;
        }
        tokenKinds[tokenCount] = kind;
        tokenOperands[tokenCount] = operand;
        tokenCount++;
        return true;
    }

    public int wipe() {
        int removed = tokenCount;
        tokenCount = 0;
        return removed;
    }

    public int compile() {
        forgetRun();
        scriptSize = 0;
        saidPlace = findBadShape();
        if (saidPlace != NONE) {
            return SHAPE;
        }
        copyTokens();
        linkTokens();
        findOwnFns();
        findMeanings();
        saidPlace = findUnbound();
        if (saidPlace != NONE) {
            return UNBOUND;
        }
        saidPlace = findOutside();
        if (saidPlace != NONE) {
            return OUTSIDE;
        }
        scriptSize = tokenCount;
        return OK;
    }

    public int place() {
        return saidPlace;
    }

    public int info(int what) {
        if (scriptSize == 0) {
            return -1;
        }
        switch (what) {
            case 0:
                return countFns();
            case 1:
                return countGeneratorFns();
            case 2:
                return countCaptured();
            case 3:
                return mostOutsideVariables();
            default:
                return -1;
        }
    }

    public int run(int most) {
        if (scriptSize == 0 || most < 1 || most > MOST_STEPS) {
            return BAD;
        }
        forgetRun();
        startBody(0, NONE);
        for (int turn = 0; turn < MOST_TURNS && activationCount > 0; turn++) {
            int slot = activeSlots[activationCount - 1];
            int frame = slot * MOST_TOKENS + frameCounts[slot] - 1;
            if (frameCounts[slot] == 0) {
                endActivation(slot);
            } else if (frameStages[frame] != NEW) {
                goOn(frame);
            } else if (stepCount < most) {
                beginToken(frame);
            } else {
                latestRun = LONG;
                return LONG;
            }
        }
        latestRun = ending == ENDS_THROW ? THROWN : VALUE;
        return latestRun;
    }

    public int sort() {
        return latestRun == VALUE || latestRun == THROWN ? valueSort : -1;
    }

    public long number() {
        return latestRun == VALUE || latestRun == THROWN ? shownNumber() : 0;
    }

    public int steps() {
        return stepCount;
    }

    public long host(int k, int what) {
        if (k == -1) {
            return noteCount;
        }
        if (k < 0 || k >= noteCount || k >= MOST_NOTES) {
            return -1;
        }
        switch (what) {
            case 0:
                return noteSorts[k];
            case 1:
                return noteNumbers[k];
            default:
                return -1;
        }
    }

    public int generator(int g) {
        if (g < 0 || g >= generatorCount) {
            return -1;
        }
        return generatorStates[g] == AT_CLOSE ? AT_WORK : generatorStates[g];
    }

    public int waits(int g) {
        if (g < 0 || g >= generatorCount || generatorStates[g] != WAITS) {
            return -1;
        }
        int slot = MOST_ACTIVATIONS + g;
        return frameTokens[slot * MOST_TOKENS + frameCounts[slot] - 1];
    }

    // ---- looking a script through ----

    private int operandCount(int kind) {
        switch (kind) {
            case NUM:
            case NIL:
            case VAR:
            case BREAK:
            case NEXT:
                return 0;
            case SET:
            case FN:
            case RETURN:
            case THROW:
            case YIELD:
            case DONE:
            case CLOSE:
            case HOST:
                return 1;
            case IF:
                return 3;
            default:
                return 2;
        }
    }

    private int findBadShape() {
        int missing = 1;
        for (int i = 0; i < tokenCount; i++) {
            if (missing == 0) {
                return i;
            }
            missing += operandCount(tokenKinds[i]) - 1;
        }
        return missing == 0 ? NONE : tokenCount;
    }

    private void copyTokens() {
        for (int i = 0; i < tokenCount; i++) {
            kinds[i] = tokenKinds[i];
            operands[i] = tokenOperands[i];
        }
    }

    // From the last token to the first, because where an operand ends must be known before the
    // next operand of the same token can be found.
    private void linkTokens() {
        parents[0] = NONE;
        for (int i = tokenCount - 1; i >= 0; i--) {
            int count = operandCount(kinds[i]);
            int next = i + 1;
            for (int n = 0; n < count && next < tokenCount; n++) {
                parents[next] = i;
                next = behind[next];
            }
            behind[i] = next;
        }
    }

    private void findOwnFns() {
        for (int i = 0; i < tokenCount; i++) {
            generatorFns[i] = false;
            int parent = parents[i];
            if (parent < 0) {
                ownFns[i] = NONE;
            } else {
                ownFns[i] = kinds[parent] == FN ? parent : ownFns[parent];
            }
            if (kinds[i] == YIELD && ownFns[i] >= 0) {
                generatorFns[ownFns[i]] = true;
            }
        }
    }

    private void findMeanings() {
        for (int i = 0; i < tokenCount; i++) {
            boolean means = kinds[i] == VAR || kinds[i] == SET;
            meanings[i] = means ? findBinder(i) : NONE;
        }
    }

    private int findBinder(int token) {
        int inner = token;
        int outer = parents[token];
        for (int n = 0; n < MOST_TOKENS && outer >= 0; n++) {
            if (binds(outer, inner) && operands[outer] == operands[token]) {
                return outer;
            }
            inner = outer;
            outer = parents[outer];
        }
        return NONE;
    }

    private boolean binds(int outer, int operand) {
        if (kinds[outer] == FN) {
            return true;
        }
        return (kinds[outer] == LET || kinds[outer] == TRY) && operand != outer + 1;
    }

    private int findUnbound() {
        for (int i = 0; i < tokenCount; i++) {
            if ((kinds[i] == VAR || kinds[i] == SET) && meanings[i] == NONE) {
                return i;
            }
        }
        return NONE;
    }

    private int findOutside() {
        for (int i = 0; i < tokenCount; i++) {
            if (kinds[i] == YIELD && ownFns[i] == NONE) {
                return i;
            }
            if ((kinds[i] == BREAK || kinds[i] == NEXT) && !standsInLoop(i)) {
                return i;
            }
        }
        return NONE;
    }

    private boolean standsInLoop(int token) {
        int inner = token;
        int outer = parents[token];
        for (int n = 0; n < MOST_TOKENS && outer >= 0 && kinds[outer] != FN; n++) {
            if (kinds[outer] == WHILE && inner != outer + 1) {
                return true;
            }
            inner = outer;
            outer = parents[outer];
        }
        return false;
    }

    private int countFns() {
        int count = 0;
        for (int i = 0; i < scriptSize; i++) {
            if (kinds[i] == FN) {
                count++;
            }
        }
        return count;
    }

    private int countGeneratorFns() {
        int count = 0;
        for (int i = 0; i < scriptSize; i++) {
            if (generatorFns[i]) {
                count++;
            }
        }
        return count;
    }

    private int countCaptured() {
        int count = 0;
        for (int i = 0; i < scriptSize; i++) {
            if (isCaptured(i)) {
                count++;
            }
        }
        return count;
    }

    private boolean isCaptured(int binder) {
        int home = kinds[binder] == FN ? binder : ownFns[binder];
        for (int i = binder + 1; i < scriptSize; i++) {
            if (meanings[i] == binder && ownFns[i] != home) {
                return true;
            }
        }
        return false;
    }

    private int mostOutsideVariables() {
        int most = 0;
        for (int i = 0; i < scriptSize; i++) {
            int count = kinds[i] == FN ? countOutsideVariables(i) : 0;
            if (count > most) {
                most = count;
            }
        }
        return most;
    }

    // A binder that is meant from inside fn but stands outside of it stands before it.
    private int countOutsideVariables(int fn) {
        int count = 0;
        for (int binder = 0; binder < fn; binder++) {
            boolean meant = false;
            for (int i = fn + 1; i < behind[fn]; i++) {
                meant = meant || meanings[i] == binder;
            }
            if (meant) {
                count++;
            }
        }
        return count;
    }

    // ---- working a script out ----

    private void forgetRun() {
        latestRun = NONE;
        stepCount = 0;
        noteCount = 0;
        generatorCount = 0;
        functionCount = 0;
        variableCount = 0;
        activationCount = 0;
    }

    private void startBody(int token, int scope) {
        int slot = activationCount;
        layFirstFrame(slot, token, scope);
        enterSlot(slot);
    }

    private void layFirstFrame(int slot, int token, int scope) {
        int frame = slot * MOST_TOKENS;
        frameTokens[frame] = token;
        frameScopes[frame] = scope;
        frameStages[frame] = NEW;
        frameCounts[slot] = 1;
    }

    private void enterSlot(int slot) {
        activeSlots[activationCount] = slot;
        activationCount++;
    }

    private void endActivation(int slot) {
        activationCount--;
        if (ending == ENDS_RETURN) {
            ending = ENDS_VALUE;
        }
        int g = slot - MOST_ACTIVATIONS;
        if (g >= 0) {
            if (generatorStates[g] == AT_CLOSE && ending != ENDS_THROW) {
                ending = ENDS_VALUE;
                valueSort = SORT_NIL;
                valueNumber = 0;
            }
            generatorStates[g] = ENDED;
        }
    }

    private void beginToken(int frame) {
        stepCount++;
        int token = frameTokens[frame];
        if (kinds[token] == FN || operandCount(kinds[token]) == 0) {
            workOutLeaf(token, frameScopes[frame]);
        } else {
            workOutPart(frame, FIRST, token + 1, frameScopes[frame]);
        }
    }

    private void workOutLeaf(int token, int scope) {
        switch (kinds[token]) {
            case NUM:
                finish(SORT_INT, operands[token]);
                break;
            case VAR:
                int variable = findVariable(meanings[token], scope);
                finish(variableSorts[variable], variableNumbers[variable]);
                break;
            case FN:
                functionTokens[functionCount] = token;
                functionScopes[functionCount] = scope;
                finish(SORT_FUNCTION, functionCount);
                functionCount++;
                break;
            case BREAK:
                finishAs(ENDS_BREAK);
                break;
            case NEXT:
                finishAs(ENDS_NEXT);
                break;
            default:
                finish(SORT_NIL, 0);
                break;
        }
    }

    private void workOutPart(int frame, int stage, int token, int scope) {
        frameStages[frame] = stage;
        frameTokens[frame + 1] = token;
        frameScopes[frame + 1] = scope;
        frameStages[frame + 1] = NEW;
        frameCounts[activeSlots[activationCount - 1]]++;
    }

    // Each finish takes the uppermost frame away: its token has ended.
    private void finish(int sort, long number) {
        ending = ENDS_VALUE;
        valueSort = sort;
        valueNumber = number;
        frameCounts[activeSlots[activationCount - 1]]--;
    }

    private void finishThrowing(int code) {
        ending = ENDS_THROW;
        valueSort = SORT_INT;
        valueNumber = code;
        frameCounts[activeSlots[activationCount - 1]]--;
    }

    // The value stays the one that was worked out last.
    private void finishAs(int how) {
        ending = how;
        frameCounts[activeSlots[activationCount - 1]]--;
    }

    // The new variable has the value that was worked out last, or was thrown.
    private int newVariable(int binder, int outer) {
        int variable = variableCount;
        variableBinders[variable] = binder;
        variableOuters[variable] = outer;
        variableSorts[variable] = valueSort;
        variableNumbers[variable] = valueNumber;
        variableCount++;
        return variable;
    }

    // The scope of a VAR or SET always has its binder's variable: compile refuses others.
    private int findVariable(int binder, int scope) {
        int variable = scope;
        for (int n = 0; n < MOST_TOKENS && variableBinders[variable] != binder; n++) {
            variable = variableOuters[variable];
        }
        return variable;
    }

    private boolean isNumber(int sort) {
        return sort == SORT_INT || sort == SORT_LONG;
    }

    private boolean isTrue() {
        return isNumber(valueSort) ? valueNumber != 0 : valueSort != SORT_NIL;
    }

    private long shownNumber() {
        return valueSort == SORT_FUNCTION ? functionTokens[(int) valueNumber] : valueNumber;
    }

    // ---- going on with a token when one of its parts has ended ----

    private void goOn(int frame) {
        int kind = kinds[frameTokens[frame]];
        int stage = frameStages[frame];
        if (kind == WHILE) {
            goOnWithWhile(frame, stage);
        } else if (kind == FINALLY) {
            goOnWithFinally(frame, stage);
        } else if (kind == TRY && stage == FIRST && ending == ENDS_THROW) {
            bindAndGoOn(frame);
        } else if (kind == TRY || ending != ENDS_VALUE || stage == LAST) {
            finishAs(ending);
        } else if (stage == FIRST) {
            goOnBehindFirst(frame, kind);
        } else {
            goOnBehindSecond(frame, kind);
        }
    }

    // A BREAK or NEXT out of the condition is meant for a WHILE around this one.
    private void goOnWithWhile(int frame, int stage) {
        int token = frameTokens[frame];
        int scope = frameScopes[frame];
        if (stage == FIRST && ending == ENDS_VALUE) {
            if (isTrue()) {
                workOutPart(frame, SECOND, behind[token + 1], scope);
            } else {
                finish(SORT_NIL, 0);
            }
        } else if (stage == SECOND && (ending == ENDS_VALUE || ending == ENDS_NEXT)) {
            workOutPart(frame, FIRST, token + 1, scope);
        } else if (stage == SECOND && ending == ENDS_BREAK) {
            finish(SORT_NIL, 0);
        } else {
            finishAs(ending);
        }
    }

    private void goOnWithFinally(int frame, int stage) {
        if (stage == FIRST) {
            keptEndings[frame] = ending;
            keepValue(frame);
            workOutPart(frame, SECOND, behind[frameTokens[frame] + 1], frameScopes[frame]);
        } else if (ending == ENDS_VALUE) {
            valueSort = keptSorts[frame];
            valueNumber = keptNumbers[frame];
            finishAs(keptEndings[frame]);
        } else {
            finishAs(ending);
        }
    }

    private void keepValue(int frame) {
        keptSorts[frame] = valueSort;
        keptNumbers[frame] = valueNumber;
    }

    private void bindAndGoOn(int frame) {
        int token = frameTokens[frame];
        int scope = newVariable(token, frameScopes[frame]);
        workOutPart(frame, LAST, behind[token + 1], scope);
    }

    private void goOnBehindFirst(int frame, int kind) {
        int token = frameTokens[frame];
        int scope = frameScopes[frame];
        switch (kind) {
            case SET:
                setVariable(token, scope);
                break;
            case LET:
                bindAndGoOn(frame);
                break;
            case IF:
                int whenTrue = behind[token + 1];
                int chosen = isTrue() ? whenTrue : behind[whenTrue];
                workOutPart(frame, LAST, chosen, scope);
                break;
            case SEQ:
                workOutPart(frame, LAST, behind[token + 1], scope);
                break;
            case RETURN:
                finishAs(ENDS_RETURN);
                break;
            case THROW:
                finishAs(ENDS_THROW);
                break;
            case YIELD:
                waitAtYield(frame);
                break;
            case DONE:
                tellWhetherDone();
                break;
            case CLOSE:
                closeGenerator(frame);
                break;
            case HOST:
                noteValue();
                break;
            default:
                keepValue(frame);
                workOutPart(frame, SECOND, behind[token + 1], scope);
                break;
        }
    }

    private void goOnBehindSecond(int frame, int kind) {
        int sort = keptSorts[frame];
        long number = keptNumbers[frame];
        if (kind == APP) {
            apply(frame);
        } else if (kind == RESUME) {
            resumeGenerator(frame);
        } else if (kind == SAME) {
            compare(sort, number);
        } else {
            calculate(kind, sort, number);
        }
    }

    private void setVariable(int token, int scope) {
        int variable = findVariable(meanings[token], scope);
        variableSorts[variable] = valueSort;
        variableNumbers[variable] = valueNumber;
        finishAs(ENDS_VALUE);
    }

    private void noteValue() {
        if (noteCount < MOST_NOTES) {
            noteSorts[noteCount] = valueSort;
            noteNumbers[noteCount] = shownNumber();
        }
        noteCount++;
        boolean refused = valueSort == SORT_INT && valueNumber < 0;
        finishAs(refused ? ENDS_THROW : ENDS_VALUE);
    }

    // ---- numbers ----

    private void compare(int sort, long number) {
        boolean bothNumbers = isNumber(sort) && isNumber(valueSort);
        boolean same = (bothNumbers || sort == valueSort) && number == valueNumber;
        finish(SORT_INT, same ? 1 : 0);
    }

    private void calculate(int kind, int leftSort, long left) {
        long right = valueNumber;
        if (!isNumber(leftSort) || !isNumber(valueSort)) {
            finishThrowing(WRONG_SORT);
        } else if (kind == LESS) {
            finish(SORT_INT, left < right ? 1 : 0);
        } else if (kind == DIV && right == 0) {
            finishThrowing(BY_ZERO);
        } else {
            long result = wrappedResult(kind, left, right);
            boolean isInt = leftSort == SORT_INT && valueSort == SORT_INT && result == (int) result;
            if (hasWrapped(kind, left, right, result)) {
                finishThrowing(TOO_BIG);
            } else {
                finish(isInt ? SORT_INT : SORT_LONG, result);
            }
        }
    }

    private long wrappedResult(int kind, long left, long right) {
        switch (kind) {
            case ADD:
                return left + right;
            case SUB:
                return left - right;
            case MUL:
                return left * right;
            default:
                return right == 0 ? 0 : left / right;
        }
    }

    // A factor -1 is looked at apart: the least LONG times -1 wraps around to itself, and so does
    // the division that would show it.
    private boolean hasWrapped(int kind, long left, long right, long result) {
        switch (kind) {
            case ADD:
                return ((left ^ result) & (right ^ result)) < 0;
            case SUB:
                return ((left ^ right) & (left ^ result)) < 0;
            case MUL:
                if (right == 0 || right == -1) {
                    return right == -1 && left < 0 && result < 0;
                }
                return result / right != left;
            default:
                return right == -1 && left < 0 && result < 0;
        }
    }

    // ---- functions and generators ----

    private void apply(int frame) {
        if (keptSorts[frame] != SORT_FUNCTION) {
            finishThrowing(WRONG_SORT);
            return;
        }
        int function = (int) keptNumbers[frame];
        int fn = functionTokens[function];
        if (generatorFns[fn]) {
            makeGenerator(fn, functionScopes[function]);
        } else if (activationCount >= MOST_ACTIVATIONS) {
            finishThrowing(TOO_DEEP);
        } else {
            int scope = newVariable(fn, functionScopes[function]);
            frameStages[frame] = LAST;
            startBody(fn + 1, scope);
        }
    }

    private void makeGenerator(int fn, int outer) {
        if (generatorCount >= MOST_GENERATORS) {
            finishThrowing(TOO_MANY);
            return;
        }
        int g = generatorCount;
        int scope = newVariable(fn, outer);
        layFirstFrame(MOST_ACTIVATIONS + g, fn + 1, scope);
        generatorStates[g] = NOT_BEGUN;
        generatorCount++;
        finish(SORT_GENERATOR, g);
    }

    private void resumeGenerator(int frame) {
        int g = (int) keptNumbers[frame];
        if (keptSorts[frame] != SORT_GENERATOR) {
            finishThrowing(WRONG_SORT);
        } else if (generatorStates[g] == ENDED) {
            finish(SORT_NIL, 0);
        } else {
            setToWork(frame, g, AT_WORK);
        }
    }

    private void closeGenerator(int frame) {
        int g = (int) valueNumber;
        if (valueSort != SORT_GENERATOR) {
            finishThrowing(WRONG_SORT);
        } else if (generatorStates[g] == NOT_BEGUN || generatorStates[g] == ENDED) {
            generatorStates[g] = ENDED;
            finish(SORT_NIL, 0);
        } else {
            setToWork(frame, g, AT_CLOSE);
        }
    }

    // The YIELD at which g waits finds its ending here; with RESUME it also finds the value of F,
    // which is the one that was worked out last.
    private void setToWork(int frame, int g, int newState) {
        if (generatorStates[g] == AT_WORK || generatorStates[g] == AT_CLOSE) {
            finishThrowing(AT_WRONG_TIME);
        } else if (activationCount >= MOST_ACTIVATIONS) {
            finishThrowing(TOO_DEEP);
        } else {
            frameStages[frame] = LAST;
            generatorStates[g] = newState;
            ending = newState == AT_CLOSE ? ENDS_CLOSING : ENDS_VALUE;
            enterSlot(MOST_ACTIVATIONS + g);
        }
    }

    // The own FN of a YIELD is its generator's, so the uppermost activation is that generator.
    private void waitAtYield(int frame) {
        int g = activeSlots[activationCount - 1] - MOST_ACTIVATIONS;
        if (generatorStates[g] == AT_CLOSE) {
            finishThrowing(AT_WRONG_TIME);
        } else {
            generatorStates[g] = WAITS;
            frameStages[frame] = LAST;
            activationCount--;
        }
    }

    private void tellWhetherDone() {
        if (valueSort != SORT_GENERATOR) {
            finishThrowing(WRONG_SORT);
        } else {
            finish(SORT_INT, generatorStates[(int) valueNumber] == ENDED ? 1 : 0);
        }
    }
}
