/** All promises: many scripts, made the same way each time, against the plain interpreter. */
public final class ReferenceTest {
    private static final int SCRIPTS = 60000;

    private static final ScriptMaker maker = new ScriptMaker();
    private static final Comparison comparison = new Comparison();

    public static void main(String[] args) {
        for (int n = 0; n < SCRIPTS; n++) {
            maker.next();
            if (n % 8 < 2) {
                maker.spoil();
            }
            // Two scripts, one after the other, so that the first must leave nothing to the second;
            // more would be more than 512 calls.
            if (n % 2 == 0) {
                comparison.useNewBench();
            }
            compare();
        }
        comparison.dueEvents(50);
        Checks.end();
    }

    private static void compare() {
        int size = maker.tokens.size();
        int[] kinds = new int[size];
        int[] operands = new int[size];
        for (int n = 0; n < size; n++) {
            kinds[n] = maker.tokens.get(n)[0];
            operands[n] = maker.tokens.get(n)[1];
        }
        Reference reference = comparison.compile(kinds, operands);
        if (reference.compiled != ScriptBench.OK) {
            return;
        }
        comparison.run(reference, 600, 42, 9);
        int few = 1 + maker.pick(reference.steps);
        comparison.run(reference, few, 10, 9);
    }
}
