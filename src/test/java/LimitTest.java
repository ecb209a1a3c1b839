/** The LIMITS: activations and generators, and what of promise 14 belongs to them. */
public final class LimitTest {
    // f(n) calls itself n times; the script and n + 1 bodies are at work then, and the deepest one
    // works out what stands behind this.
    private static final String DESCEND = "LET 0 NIL SEQ SET 0 FN 1 IF VAR 1 APP VAR 0 SUB VAR 1 NUM 1 ";

    public static void main(String[] args) {
        eightActivations();
        activationsAreGivenBack();
        resumeAtTheLimit();
        closeAtTheLimit();
        makeAtTheLimit();
        generatorsAreActivations();
        eightGenerators();
        framesOfManyGenerators();
        deepestNesting();
        Checks.end();
    }

    private static void eightActivations() {
        Checks.gives(DESCEND + "NUM 3 APP VAR 0 NUM 6", Checks.INT, 3);
        Checks.throwsCode(DESCEND + "NUM 3 APP VAR 0 NUM 7", -5);
        Checks.gives("TRY 5 " + DESCEND + "NUM 3 APP VAR 0 NUM 7 VAR 5", Checks.INT, -5);
        // The deepest body may catch it.
        Checks.gives("LET 0 NIL SEQ SET 0 FN 1 TRY 2 APP VAR 0 ADD VAR 1 NUM 1 VAR 1 APP VAR 0 NUM 1", Checks.INT, 7);
        // -3 is tested first, and F is worked out before.
        Checks.throwsCode(DESCEND + "APP NIL NIL APP VAR 0 NUM 6", -3);
        Checks.noted(Checks.throwsCode(DESCEND + "APP FN 2 NIL HOST NUM 4 APP VAR 0 NUM 6", -5), 4);
    }

    private static void activationsAreGivenBack() {
        Checks.gives("LET 0 NUM 20 LET 1 FN 2 VAR 2 SEQ WHILE SET 0 SUB VAR 0 NUM 1 APP VAR 1 NIL VAR 0", Checks.INT, 0);
        Checks.gives("LET 0 NUM 20 LET 1 FN 2 THROW VAR 2 SEQ WHILE SET 0 SUB VAR 0 NUM 1 TRY 3 APP VAR 1 NIL NIL VAR 0",
            Checks.INT, 0);
        Checks.gives("LET 0 NUM 20 LET 1 APP FN 2 WHILE NUM 1 YIELD NIL NIL "
            + "SEQ WHILE SET 0 SUB VAR 0 NUM 1 RESUME VAR 1 NIL VAR 0", Checks.INT, 0);
        Checks.gives(DESCEND + "NUM 3 ADD APP VAR 0 NUM 6 APP VAR 0 NUM 6", Checks.INT, 6);
    }

    private static String atTheLimit(String before, String deepest, int depth) {
        return "LET 3 APP FN 2 YIELD NUM 9 NIL SEQ " + before + " " + DESCEND + deepest + " APP VAR 0 NUM " + depth;
    }

    private static void state(ScriptBench bench, int state) {
        Checks.due("state", bench.generator(0), state);
    }

    private static void resumeAtTheLimit() {
        state(Checks.gives(atTheLimit("NIL", "RESUME VAR 3 NIL", 5), Checks.INT, 9), 1);
        state(Checks.throwsCode(atTheLimit("NIL", "RESUME VAR 3 NIL", 6), -5), 0);
        ScriptBench bench = Checks.throwsCode(atTheLimit("RESUME VAR 3 NIL", "RESUME VAR 3 NIL", 6), -5);
        state(bench, 1);
        Checks.due("it waits where it waited", bench.waits(0), 3);
        // One that has ENDED is not begun, so the limit does not matter.
        state(Checks.gives(atTheLimit("CLOSE VAR 3", "RESUME VAR 3 NIL", 6), Checks.NIL, 0), 3);
        Checks.throwsCode(atTheLimit("NIL", "RESUME NIL NIL", 6), -3);
        Checks.gives(atTheLimit("NIL", "DONE VAR 3", 6), Checks.INT, 0);
    }

    private static void closeAtTheLimit() {
        state(Checks.gives(atTheLimit("RESUME VAR 3 NIL", "CLOSE VAR 3", 5), Checks.NIL, 0), 3);
        state(Checks.throwsCode(atTheLimit("RESUME VAR 3 NIL", "CLOSE VAR 3", 6), -5), 1);
        state(Checks.gives(atTheLimit("NIL", "CLOSE VAR 3", 6), Checks.NIL, 0), 3);
        state(Checks.gives(atTheLimit("CLOSE VAR 3", "CLOSE VAR 3", 6), Checks.NIL, 0), 3);
        Checks.throwsCode(atTheLimit("NIL", "CLOSE NIL", 6), -3);
        // After -5 it can still be resumed from less deep.
        state(Checks.gives("LET 3 APP FN 2 SEQ YIELD NIL NUM 8 NIL SEQ RESUME VAR 3 NIL SEQ TRY 4 "
            + DESCEND + "CLOSE VAR 3 APP VAR 0 NUM 6 HOST SUB NUM 0 VAR 4 RESUME VAR 3 NIL", Checks.INT, 8), 3);
    }

    private static void makeAtTheLimit() {
        state(Checks.gives(DESCEND + "APP FN 2 YIELD NIL NIL APP VAR 0 NUM 6", Checks.GENERATOR, 0), 0);
        Checks.gives(DESCEND + "FN 2 NIL APP VAR 0 NUM 6", Checks.FUNCTION, 12);
    }

    private static void generatorsAreActivations() {
        // AT WORK at the limit: -4 comes before -5.
        Checks.throwsCode("LET 4 NIL SEQ SET 4 APP FN 5 " + "SEQ " + DESCEND + "RESUME VAR 4 NIL APP VAR 0 NUM 5 YIELD NIL NIL "
            + "RESUME VAR 4 NIL", -4);
        Checks.throwsCode("LET 4 NIL SEQ SET 4 APP FN 5 " + "SEQ " + DESCEND + "CLOSE VAR 4 APP VAR 0 NUM 5 YIELD NIL NIL "
            + "RESUME VAR 4 NIL", -4);
        // The generator counts while it is AT WORK.
        String inside = "LET 4 APP FN 5 YIELD " + DESCEND + "NUM 3 APP VAR 0 VAR 5 ";
        Checks.gives(inside + "NUM 5 RESUME VAR 4 NIL", Checks.INT, 3);
        Checks.throwsCode(inside + "NUM 6 RESUME VAR 4 NIL", -5);
        // While it WAITS it does not.
        Checks.gives("LET 4 APP FN 5 YIELD NIL NIL SEQ RESUME VAR 4 NIL " + DESCEND + "NUM 3 APP VAR 0 NUM 6", Checks.INT, 3);
        // A generator that makes and resumes the next one, as deep as may be.
        ScriptBench bench = Checks.gives("LET 0 NIL SEQ SET 0 FN 1 YIELD IF VAR 1 RESUME APP VAR 0 SUB VAR 1 NUM 1 NIL NUM 4 "
            + "RESUME APP VAR 0 NUM 6 NIL", Checks.INT, 4);
        for (int g = 0; g < 7; g++) {
            Checks.due("generator " + g, bench.generator(g), 1);
            Checks.due("waits " + g, bench.waits(g), 5);
        }
        Checks.due("generator 7", bench.generator(7), -1);
        bench = Checks.throwsCode("LET 0 NIL SEQ SET 0 FN 1 YIELD IF VAR 1 RESUME APP VAR 0 SUB VAR 1 NUM 1 NIL NUM 4 "
            + "RESUME APP VAR 0 NUM 7 NIL", -5);
        Checks.due("the first one", bench.generator(0), 3);
        Checks.due("the one that could not begin", bench.generator(7), 0);
    }

    private static void eightGenerators() {
        String many = "LET 0 FN 1 YIELD NIL LET 2 NUM 0 WHILE NUM 1 SEQ APP VAR 0 NIL HOST SET 2 ADD VAR 2 NUM 1";
        ScriptBench bench = Checks.throwsCode(many, -6);
        Checks.noted(bench, 1, 2, 3, 4, 5, 6, 7, 8);
        for (int g = 0; g < 8; g++) {
            Checks.due("generator " + g, bench.generator(g), 0);
        }
        Checks.due("no ninth", bench.generator(8), -1);
        // Those that have ENDED count, too.
        Checks.noted(Checks.throwsCode("LET 0 FN 1 YIELD NIL LET 2 NUM 0 WHILE NUM 1 SEQ CLOSE APP VAR 0 NIL "
            + "HOST SET 2 ADD VAR 2 NUM 1", -6), 1, 2, 3, 4, 5, 6, 7, 8);
        // Plain functions are still called, and -6 can be caught.
        Checks.gives("LET 0 FN 1 YIELD NIL TRY 3 WHILE NUM 1 APP VAR 0 NIL APP FN 4 ADD VAR 4 VAR 3 NUM 10", Checks.INT, 4);
        Checks.due("the next run may make eight again", bench.run(600), ScriptBench.THROWN);
        Checks.due("eight again", bench.host(-1, 0), 8);
    }

    private static void framesOfManyGenerators() {
        // All eight wait deep in their bodies while functions are called; none may spoil another.
        ScriptBench bench = Checks.gives("LET 0 FN 1 ADD VAR 1 ADD NUM 0 ADD NUM 0 ADD NUM 0 YIELD NIL "
            + "LET 2 NUM 0 LET 3 NIL WHILE LESS VAR 2 NUM 8 SEQ SET 2 ADD VAR 2 NUM 1 "
            + "SEQ IF VAR 3 HOST RESUME VAR 3 VAR 2 NIL SEQ SET 3 APP VAR 0 MUL VAR 2 NUM 10 RESUME VAR 3 NIL", Checks.NIL, 0);
        Checks.noted(bench, 12, 23, 34, 45, 56, 67, 78);
        for (int g = 0; g < 8; g++) {
            Checks.due("generator " + g, bench.generator(g), g < 7 ? 3 : 1);
        }
    }

    private static void deepestNesting() {
        ScriptBench bench = new ScriptBench();
        for (int i = 0; i < 47; i++) {
            bench.token(18, 0);
        }
        bench.token(0, 5);
        Checks.due("compile of RETURNs", bench.compile(), ScriptBench.OK);
        Checks.due("run of RETURNs", bench.run(600), ScriptBench.VALUE);
        Checks.due("number of RETURNs", bench.number(), 5);
        Checks.due("steps of RETURNs", bench.steps(), 48);
        bench.wipe();
        for (int i = 0; i < 23; i++) {
            bench.token(15, 0);
            bench.token(1, 0);
        }
        bench.token(26, 0);
        bench.token(0, 6);
        Checks.due("compile of SEQs", bench.compile(), ScriptBench.OK);
        Checks.due("run of SEQs", bench.run(600), ScriptBench.VALUE);
        Checks.due("number of SEQs", bench.number(), 6);
    }
}
