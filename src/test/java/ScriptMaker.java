import java.util.ArrayList;
import java.util.List;

/** Makes scripts of all kinds, the same ones each time: well formed, and mostly of fitting sorts. */
final class ScriptMaker {
    private static final int ANY = 0, NUMBER = 1, FUNCTION = 2, GENERATOR = 3;
    private static final int[] NUMBERS = {0, 1, 2, 3, -1, 5, 2147483647, -2147483648, 65536};

    /** Each token: its kind and its operand. */
    final List<int[]> tokens = new ArrayList<>();
    // What is bound where the next token stands: the name, and what its value most likely is.
    private final List<int[]> bound = new ArrayList<>();
    private long seed = 1;

    int pick(int below) {
        seed = seed * 6364136223846793005L + 1442695040888963407L;
        return (int) ((seed >>> 33) % below);
    }

    void next() {
        do {
            tokens.clear();
            bound.clear();
            makeWhole();
        } while (tokens.size() > 48);
    }

    /** Changes one token, so that the script most likely is no longer one. */
    void spoil() {
        int where = pick(tokens.size());
        int[] token = {pick(27), pick(6)};
        switch (pick(4)) {
            case 0 -> tokens.remove(where);
            case 1 -> {
                tokens.remove(tokens.size() - 1);
                tokens.add(where, token);
            }
            default -> tokens.set(where, token);
        }
    }

    private void makeWhole() {
        switch (pick(10)) {
            case 0, 1 -> make(ANY, 6, false, false);
            case 2 -> makeHugeNumbers();
            case 3 -> makeRecursion();
            case 4 -> makeDescent();
            default -> makeGeneratorUse();
        }
    }

    /** A function that can call itself. */
    private void makeRecursion() {
        put(4, 0);
        put(1, 0);
        bound.add(new int[] {0, FUNCTION});
        put(15, 0);
        put(3, 0);
        makeFn(5, pick(3) == 0);
        make(ANY, 4, false, false);
    }

    /** A function that calls itself again and again; what it does besides is free. */
    private void makeDescent() {
        put(4, 0);
        put(1, 0);
        bound.add(new int[] {0, FUNCTION});
        put(15, 0);
        put(3, 0);
        boolean yields = pick(2) == 0;
        put(5, 1);
        bound.add(new int[] {1, ANY});
        if (yields) {
            put(22, 0);
        }
        put(new int[] {15, 21, 7}[pick(3)], 0);
        make(ANY, 2, false, yields);
        makeCall(yields);
        bound.remove(bound.size() - 1);
        makeCall(yields);
    }

    private void makeCall(boolean yields) {
        if (yields) {
            put(23, 0);
        }
        put(6, 0);
        put(2, 0);
        make(ANY, 1, false, false);
        if (yields) {
            put(1, 0);
        }
    }

    private void makeHugeNumbers() {
        int[][] row = {{4, 0}, {9, 0}, {0, -2147483648}, {0, -2147483648}, {4, 1}, {9, 0}, {2, 0}, {0, -2}};
        for (int[] token : row) {
            put(token[0], token[1]);
        }
        bound.add(new int[] {0, NUMBER});
        bound.add(new int[] {1, NUMBER});
        makeBoth(7 + pick(5), NUMBER, NUMBER, 3, false, false);
    }

    /** A generator, and a row of things done to it. */
    private void makeGeneratorUse() {
        put(4, 0);
        put(6, 0);
        makeFn(4 + pick(2), true);
        make(ANY, 1, false, false);
        bound.add(new int[] {0, GENERATOR});
        for (int n = pick(4); n > 0; n--) {
            put(15, 0);
            makeGeneratorAct();
        }
        if (pick(2) == 0) {
            makeGeneratorAct();
        } else {
            make(ANY, 4, false, false);
        }
    }

    private void makeGeneratorAct() {
        if (pick(3) == 0) {
            put(26, 0);
        }
        int kind = new int[] {23, 23, 23, 25, 24}[pick(5)];
        put(kind, 0);
        make(GENERATOR, 0, false, false);
        if (kind == 23) {
            make(ANY, 1, false, false);
        }
    }

    private void put(int kind, int operand) {
        tokens.add(new int[] {kind, operand});
    }

    private void makeBoth(int kind, int first, int second, int depth, boolean inLoop, boolean inFn) {
        put(kind, 0);
        make(first, depth - 1, inLoop, inFn);
        make(second, depth - 1, inLoop, inFn);
    }

    private void makeBound(int kind, int likely, int want, int depth, boolean inLoop, boolean inFn) {
        int name = pick(4);
        put(kind, name);
        make(likely, depth - 1, inLoop, inFn);
        bound.add(new int[] {name, likely});
        make(want, depth - 1, inLoop, inFn);
        bound.remove(bound.size() - 1);
    }

    private void make(int want, int depth, boolean inLoop, boolean inFn) {
        if (depth <= 0 || tokens.size() > 40) {
            makeLeaf(want);
            return;
        }
        switch (pick(20)) {
            case 0, 1 -> makeBound(4, 1 + pick(3), want, depth, inLoop, inFn);
            case 2, 3, 4, 5 -> makeWanted(want == ANY ? 1 + pick(3) : want, depth, inLoop, inFn);
            case 6, 7 -> makeBoth(15, ANY, want, depth, inLoop, inFn);
            case 8 -> makeBound(20, ANY, want, depth, inLoop, inFn);
            case 9, 10 -> makeBoth(21, want, ANY, depth, inLoop, inFn);
            case 11 -> makeLoop(depth, inLoop, inFn);
            case 12 -> {
                if (inLoop) {
                    put(16 + pick(2), 0);
                } else {
                    makeLeaf(want);
                }
            }
            case 13, 14 -> {
                if (inFn) {
                    put(22, 0);
                }
                make(ANY, depth - 1, inLoop, inFn);
            }
            default -> makeOther(want, depth, inLoop, inFn);
        }
    }

    private void makeLeaf(int want) {
        for (int n = 0; n < 4 && !bound.isEmpty(); n++) {
            int[] variable = bound.get(pick(bound.size()));
            if (want == ANY || variable[1] == want) {
                put(2, variable[0]);
                return;
            }
        }
        if (want == FUNCTION && pick(2) == 0) {
            int name = pick(4);
            put(5, name);
            put(2, name);
        } else if (pick(6) == 0) {
            put(1, 0);
        } else {
            put(0, NUMBERS[pick(NUMBERS.length)]);
        }
    }

    private void makeWanted(int want, int depth, boolean inLoop, boolean inFn) {
        if (want == NUMBER) {
            makeBoth(7 + pick(6), NUMBER, NUMBER, depth, inLoop, inFn);
        } else if (want == FUNCTION) {
            makeFn(depth - 1, pick(3) == 0);
        } else {
            put(6, 0);
            makeFn(depth - 1, true);
            make(ANY, depth - 2, inLoop, inFn);
        }
    }

    private void makeFn(int depth, boolean yields) {
        int name = pick(4);
        put(5, name);
        bound.add(new int[] {name, ANY});
        boolean loops = yields && pick(3) == 0;
        if (loops) {
            put(14, 0);
            put(0, 1);
        }
        if (yields && pick(3) != 0) {
            put(new int[] {15, 21, 7}[pick(3)], 0);
            put(22, 0);
            make(ANY, depth - 2, loops, true);
        }
        make(ANY, depth, loops, yields);
        bound.remove(bound.size() - 1);
    }

    /** A loop that counts down from a small number, or one with any condition. */
    private void makeLoop(int depth, boolean inLoop, boolean inFn) {
        if (pick(3) == 0) {
            put(14, 0);
            make(NUMBER, depth - 2, inLoop, inFn);
            make(ANY, depth - 1, true, inFn);
            return;
        }
        int name = pick(4);
        int[][] row = {{4, name}, {0, 2 + pick(9)}, {14, 0}, {3, name}, {8, 0}, {2, name}, {0, 1}};
        for (int[] token : row) {
            put(token[0], token[1]);
        }
        bound.add(new int[] {name, NUMBER});
        make(ANY, depth - 1, true, inFn);
        bound.remove(bound.size() - 1);
    }

    private void makeOther(int want, int depth, boolean inLoop, boolean inFn) {
        switch (pick(10)) {
            case 0, 1 -> makeBoth(6, FUNCTION, ANY, depth, inLoop, inFn);
            case 2, 3 -> makeBoth(23, GENERATOR, ANY, depth, inLoop, inFn);
            case 4 -> {
                put(24 + pick(2), 0);
                make(GENERATOR, depth - 1, inLoop, inFn);
            }
            case 5 -> {
                put(26, 0);
                make(ANY, depth - 1, inLoop, inFn);
            }
            case 6 -> {
                makeBoth(13, NUMBER, want, depth, inLoop, inFn);
                make(want, depth - 1, inLoop, inFn);
            }
            case 7 -> {
                put(18 + pick(2), 0);
                make(ANY, depth - 1, inLoop, inFn);
            }
            default -> {
                if (!bound.isEmpty()) {
                    put(3, bound.get(pick(bound.size()))[0]);
                }
                make(want, depth - 1, inLoop, inFn);
            }
        }
    }
}
