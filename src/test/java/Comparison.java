import java.util.List;

/** Has a script looked through and run by ScriptBench and by the plain interpreter, and compares all answers. */
final class Comparison {
    private static final String[] EVENTS = {"VALUE", "THROWN", "LONG", "not begun", "waits", "at work", "ended",
        "OK", "SHAPE", "UNBOUND", "OUTSIDE", "-1", "-2", "-3", "-4", "-5", "-6"};
    private static final int FIRST_STATE = 3, FIRST_COMPILE = 7, FIRST_CODE = 11;

    private final long[] seen = new long[EVENTS.length];
    private ScriptBench bench;
    private int[] kinds;
    private int[] operands;

    /** The next scripts go to a new object. */
    void useNewBench() {
        bench = new ScriptBench();
    }

    /** How the plain interpreter sees the script; it has not been run then. */
    Reference compile(int[] kinds, int[] operands) {
        bench.wipe();
        for (int n = 0; n < kinds.length; n++) {
            bench.token(kinds[n], operands[n]);
        }
        this.kinds = kinds;
        this.operands = operands;
        Reference reference = new Reference(kinds, operands);
        due("compile", kinds.length, bench.compile(), reference.compiled);
        due("place", kinds.length, bench.place(), reference.place);
        seen[FIRST_COMPILE + reference.compiled]++;
        for (int what = 0; what < 4; what++) {
            due("info", what, bench.info(what), reference.compiled == 0 ? reference.infos[what] : -1);
        }
        if (reference.compiled != 0) {
            due("run", 600, bench.run(600), ScriptBench.BAD);
        }
        return reference;
    }

    /** notes, generators: how many of them are asked for. */
    void run(Reference reference, int most, int notes, int generators) {
        reference.run(most);
        due("run", most, bench.run(most), reference.outcome);
        due("steps of", most, bench.steps(), reference.steps);
        boolean ended = reference.outcome != ScriptBench.LONG;
        int sort = ended ? Reference.sortOf(reference.value) : -1;
        long number = ended ? Reference.numberOf(reference.value) : 0;
        due("sort of", most, bench.sort(), sort);
        due("number of", most, bench.number(), number);
        seen[reference.outcome]++;
        if (reference.outcome == ScriptBench.THROWN && sort == 1 && number >= -6 && number <= -1) {
            seen[FIRST_CODE - 1 - (int) number]++;
        }
        due("NOTED in", most, bench.host(-1, 0), reference.notes.size());
        for (int k = 0; k < notes; k++) {
            boolean kept = k < 40 && k < reference.notes.size();
            due("sort NOTED at", k, bench.host(k, 0), kept ? Reference.sortOf(reference.notes.get(k)) : -1);
            due("number NOTED at", k, bench.host(k, 1), kept ? Reference.numberOf(reference.notes.get(k)) : -1);
        }
        for (int g = 0; g < generators; g++) {
            due("generator", g, bench.generator(g), reference.generator(g));
            due("waits", g, bench.waits(g), reference.waits(g));
            if (reference.generator(g) >= 0) {
                seen[FIRST_STATE + reference.generator(g)]++;
            }
        }
    }

    /** If the scripts came to nothing, comparing them would, too. */
    void dueEvents(long least, String... rare) {
        for (int n = 0; n < EVENTS.length; n++) {
            boolean expected = !List.of(rare).contains(EVENTS[n]);
            Checks.due("enough scripts with " + EVENTS[n] + " (there were " + seen[n] + ")", !expected || seen[n] >= least, true);
        }
    }

    private void due(String what, int n, long got, long want) {
        if (got != want) {
            Checks.due(script() + what + " " + n, got, want);
        }
    }

    private String script() {
        StringBuilder words = new StringBuilder();
        for (int n = 0; n < kinds.length; n++) {
            words.append(Checks.KINDS.get(kinds[n])).append(' ').append(operands[n]).append(' ');
        }
        return words + ": ";
    }
}
