import java.util.ArrayList;
import java.util.List;

/**
 * All promises: rows of calls, the same ones each time, in every order. What each call must answer is
 * worked out from the calls before it; what a script does is worked out by the plain interpreter.
 */
public final class CallsTest {
    private static final int OBJECTS = 2500, MOST_CALLS = 512;

    private static final ScriptMaker maker = new ScriptMaker();
    private static final StringBuilder row = new StringBuilder();
    private static int wrong;

    private static ScriptBench bench;
    private static int calls;
    private static final List<int[]> tokens = new ArrayList<>();
    private static Reference script;
    private static int place;
    private static boolean ran;

    public static void main(String[] args) {
        for (int n = 0; n < OBJECTS && wrong == 0; n++) {
            begin();
            while (calls < MOST_CALLS && wrong == 0) {
                callAny();
            }
        }
        Checks.end();
    }

    private static void begin() {
        bench = new ScriptBench();
        calls = 0;
        row.setLength(0);
        tokens.clear();
        script = null;
        place = -1;
        ran = false;
    }

    /** The first wrong answer is told with all calls before it; what follows from it is not. */
    private static void due(String call, long got, long want) {
        calls++;
        row.append(call).append(" = ").append(got).append('\n');
        if (got != want) {
            wrong++;
            Checks.due(row + "the last call", got, want);
        }
    }

    private static void callAny() {
        switch (maker.pick(12)) {
            case 0 -> callToken(maker.pick(29) - 1, maker.pick(9) - 1);
            case 1 -> callWipe();
            case 2, 3 -> callWholeScript();
            case 4 -> callCompile();
            case 5, 6 -> callRun();
            default -> callQuestion();
        }
    }

    private static void callToken(int kind, int operand) {
        boolean named = (kind >= 2 && kind <= 5) || kind == 20;
        boolean taken = kind >= 0 && kind <= 26 && tokens.size() < 48 && (!named || (operand >= 0 && operand <= 5));
        if (taken) {
            tokens.add(new int[] {kind, operand});
        }
        due("token(" + kind + ", " + operand + ")", bench.token(kind, operand) ? 1 : 0, taken ? 1 : 0);
    }

    private static void callWipe() {
        int removed = tokens.size();
        tokens.clear();
        due("wipe()", bench.wipe(), removed);
    }

    /** Mostly a script that can be compiled, but no wipe before it now and then. */
    private static void callWholeScript() {
        maker.next();
        if (maker.pick(6) == 0) {
            maker.spoil();
        }
        if (calls + maker.tokens.size() + 2 > MOST_CALLS) {
            callQuestion();
            return;
        }
        if (maker.pick(8) != 0) {
            callWipe();
        }
        for (int[] token : maker.tokens) {
            callToken(token[0], token[1]);
        }
        if (maker.pick(4) != 0) {
            callCompile();
        }
    }

    private static void callCompile() {
        int[] kinds = new int[tokens.size()];
        int[] operands = new int[tokens.size()];
        for (int n = 0; n < kinds.length; n++) {
            kinds[n] = tokens.get(n)[0];
            operands[n] = tokens.get(n)[1];
        }
        Reference compiled = new Reference(kinds, operands);
        script = compiled.compiled == ScriptBench.OK ? compiled : null;
        place = compiled.place;
        ran = false;
        due("compile()", bench.compile(), compiled.compiled);
    }

    private static void callRun() {
        int[] mosts = {600, 600, 600, 1 + maker.pick(30), 1 + maker.pick(600), 1, 0, 601, -1 - maker.pick(700), 601 + maker.pick(700)};
        int most = mosts[maker.pick(mosts.length)];
        int outcome = ScriptBench.BAD;
        if (script != null && most >= 1 && most <= 600) {
            script.run(most);
            ran = true;
            outcome = script.outcome;
        }
        due("run(" + most + ")", bench.run(most), outcome);
    }

    private static void callQuestion() {
        boolean ended = ran && script.outcome != ScriptBench.LONG;
        int what = maker.pick(7) - 2;
        int g = maker.pick(12) - 2;
        switch (maker.pick(8)) {
            case 0 -> due("place()", bench.place(), place);
            case 1 -> due("info(" + what + ")", bench.info(what), script != null && what >= 0 && what <= 3 ? script.infos[what] : -1);
            case 2 -> due("sort()", bench.sort(), ended ? Reference.sortOf(script.value) : -1);
            case 3 -> due("number()", bench.number(), ended ? Reference.numberOf(script.value) : 0);
            case 4 -> due("steps()", bench.steps(), ran ? script.steps : 0);
            case 5 -> callHost(what);
            case 6 -> due("generator(" + g + ")", bench.generator(g), ran && g >= 0 ? script.generator(g) : -1);
            default -> due("waits(" + g + ")", bench.waits(g), ran && g >= 0 ? script.waits(g) : -1);
        }
    }

    private static void callHost(int what) {
        int count = ran ? script.notes.size() : 0;
        int[] places = {-1, maker.pick(46) - 3, maker.pick(count + 2), 0};
        int k = places[maker.pick(places.length)];
        long want = -1;
        if (k == -1) {
            want = count;
        } else if (k >= 0 && k < count && k < 40 && (what == 0 || what == 1)) {
            Object note = script.notes.get(k);
            want = what == 0 ? Reference.sortOf(note) : Reference.numberOf(note);
        }
        due("host(" + k + ", " + what + ")", bench.host(k, what), want);
    }
}
