/** All promises: many scripts, made the same way each time, against the plain interpreter. */
public final class ReferenceTest {
    private static final int SCRIPTS = 60000;

    private static final String[] EVENTS = {"VALUE", "THROWN", "LONG", "not begun", "waits", "at work", "ended",
        "OK", "SHAPE", "UNBOUND", "OUTSIDE", "-1", "-2", "-3", "-4", "-5", "-6"};
    private static final int FIRST_STATE = 3, FIRST_COMPILE = 7, FIRST_CODE = 11;
    private static final long[] seen = new long[EVENTS.length];

    private static final ScriptMaker maker = new ScriptMaker();
    private static ScriptBench bench;
    private static String script;

    public static void main(String[] args) {
        for (int n = 0; n < SCRIPTS; n++) {
            maker.next();
            if (n % 8 < 2) {
                maker.spoil();
            }
            // Two scripts, one after the other, so that the first must leave nothing to the second;
            // more would be more than 512 calls.
            if (n % 2 == 0) {
                bench = new ScriptBench();
            }
            compare();
        }
        // If the scripts came to nothing, comparing them would, too.
        for (int n = 0; n < EVENTS.length; n++) {
            Checks.due("enough scripts with " + EVENTS[n] + " (there were " + seen[n] + ")", seen[n] >= 50, true);
        }
        Checks.end();
    }

    private static void compare() {
        int size = maker.tokens.size();
        int[] kinds = new int[size];
        int[] operands = new int[size];
        bench.wipe();
        StringBuilder words = new StringBuilder();
        for (int n = 0; n < size; n++) {
            kinds[n] = maker.tokens.get(n)[0];
            operands[n] = maker.tokens.get(n)[1];
            words.append(Checks.KINDS.get(kinds[n])).append(' ').append(operands[n]).append(' ');
            bench.token(kinds[n], operands[n]);
        }
        script = words.toString();
        Reference reference = new Reference(kinds, operands);
        due("compile", bench.compile(), reference.compiled);
        due("place", bench.place(), reference.place);
        seen[FIRST_COMPILE + reference.compiled]++;
        for (int what = 0; what < 4; what++) {
            due("info " + what, bench.info(what), reference.compiled == 0 ? reference.infos[what] : -1);
        }
        if (reference.compiled != 0) {
            due("run", bench.run(600), ScriptBench.BAD);
            return;
        }
        compareRuns(reference, 600, 42);
        int few = 1 + maker.pick(reference.steps);
        compareRuns(reference, few, 10);
    }

    private static void due(String what, long got, long want) {
        if (got != want) {
            Checks.due(script + ": " + what, got, want);
        }
    }

    private static void compareRuns(Reference reference, int most, int notes) {
        reference.run(most);
        due("run " + most, bench.run(most), reference.outcome);
        due("steps of " + most, bench.steps(), reference.steps);
        boolean ended = reference.outcome != ScriptBench.LONG;
        int sort = ended ? Reference.sortOf(reference.value) : -1;
        long number = ended ? Reference.numberOf(reference.value) : 0;
        due("sort of " + most, bench.sort(), sort);
        due("number of " + most, bench.number(), number);
        seen[reference.outcome]++;
        if (reference.outcome == ScriptBench.THROWN && sort == 1 && number >= -6 && number <= -1) {
            seen[FIRST_CODE - 1 - (int) number]++;
        }
        due("NOTED in " + most, bench.host(-1, 0), reference.notes.size());
        for (int k = 0; k < notes; k++) {
            boolean kept = k < 40 && k < reference.notes.size();
            due("sort NOTED at " + k, bench.host(k, 0), kept ? Reference.sortOf(reference.notes.get(k)) : -1);
            due("number NOTED at " + k, bench.host(k, 1), kept ? Reference.numberOf(reference.notes.get(k)) : -1);
        }
        for (int g = 0; g < 9; g++) {
            due("generator " + g, bench.generator(g), reference.generator(g));
            due("waits " + g, bench.waits(g), reference.waits(g));
            if (reference.generator(g) >= 0) {
                seen[FIRST_STATE + reference.generator(g)]++;
            }
        }
    }
}
