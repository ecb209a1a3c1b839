/** Promises 12 (generator) and 13 (waits), and what RESUME, YIELD, DONE and CLOSE do. */
public final class GeneratorTest {
    public static void main(String[] args) {
        states();
        wrongNumbers();
        resume();
        resumeAtTheEnd();
        done();
        close();
        closeWithFinally();
        closeThatGoesOn();
        atWork();
        variables();
        generatorsInGenerators();
        Checks.end();
    }

    private static void state(ScriptBench bench, int g, int state, int place) {
        Checks.due("state of generator " + g, bench.generator(g), state);
        Checks.due("place of generator " + g, bench.waits(g), place);
    }

    private static void states() {
        state(Checks.gives("APP FN 0 YIELD NIL NIL", Checks.GENERATOR, 0), 0, 0, -1);
        String made = "LET 0 APP FN 1 SEQ YIELD NUM 5 YIELD NUM 6 NIL ";
        String resumed = "SEQ RESUME VAR 0 NIL ";
        state(Checks.gives(made + "VAR 0", Checks.GENERATOR, 0), 0, 0, -1);
        state(Checks.gives(made + "RESUME VAR 0 NIL", Checks.INT, 5), 0, 1, 4);
        state(Checks.gives(made + resumed + "RESUME VAR 0 NIL", Checks.INT, 6), 0, 1, 6);
        state(Checks.gives(made + resumed + resumed + "RESUME VAR 0 NIL", Checks.NIL, 0), 0, 3, -1);
        ScriptBench bench = Checks.compiled("LET 0 APP FN 1 YIELD WHILE NUM 1 NIL NIL RESUME VAR 0 NIL");
        Checks.due("run", bench.run(100), ScriptBench.LONG);
        state(bench, 0, 2, -1);
        bench = Checks.compiled("LET 0 APP FN 1 FINALLY YIELD NIL WHILE NUM 1 NIL NIL SEQ RESUME VAR 0 NIL CLOSE VAR 0");
        Checks.due("run", bench.run(100), ScriptBench.LONG);
        state(bench, 0, 2, -1);
    }

    private static void wrongNumbers() {
        ScriptBench bench = Checks.gives("LET 0 APP FN 1 YIELD NIL NIL RESUME VAR 0 NIL", Checks.NIL, 0);
        int[] wrong = {-1, 1, 7, 8, Integer.MIN_VALUE, Integer.MAX_VALUE};
        for (int g : wrong) {
            state(bench, g, -1, -1);
        }
        state(bench, 0, 1, 3);
        Checks.due("run", bench.run(0), ScriptBench.BAD);
        state(bench, 0, 1, 3);
        bench.wipe();
        state(bench, 0, 1, 3);
        bench.compile();
        state(bench, 0, -1, -1);
    }

    private static void resume() {
        // The first RESUME's F is worked out, but nothing takes its value.
        Checks.noted(Checks.gives("LET 0 APP FN 1 HOST YIELD VAR 1 NUM 3 "
            + "SEQ HOST RESUME VAR 0 HOST NUM 4 RESUME VAR 0 NUM 5", Checks.INT, 5), 4, 3, 5);
        Checks.gives("LET 0 APP FN 1 ADD YIELD NUM 1 YIELD NUM 2 NIL "
            + "SEQ RESUME VAR 0 NIL SEQ RESUME VAR 0 NUM 30 RESUME VAR 0 NUM 4", Checks.INT, 34);
        Checks.gives("LET 0 APP FN 1 WHILE NUM 1 SET 1 ADD VAR 1 YIELD VAR 1 NUM 1 "
            + "SEQ RESUME VAR 0 NIL SEQ RESUME VAR 0 NUM 10 RESUME VAR 0 NUM 100", Checks.INT, 111);
        Checks.throwsCode("RESUME NIL NIL", -3);
        Checks.throwsCode("RESUME NUM 0 NIL", -3);
        Checks.throwsCode("RESUME FN 0 YIELD NIL NIL", -3);
    }

    private static void resumeAtTheEnd() {
        String rest = "RESUME VAR 0 NIL RESUME VAR 0 NUM 8";
        Checks.gives("LET 0 APP FN 1 SEQ YIELD NIL NUM 7 NIL SEQ " + rest, Checks.INT, 7);
        Checks.gives("LET 0 APP FN 1 SEQ RETURN YIELD NIL NUM 7 NIL SEQ " + rest, Checks.INT, 8);
        state(Checks.throwsCode("LET 0 APP FN 1 THROW YIELD NIL NIL SEQ " + rest, 8), 0, 3, -1);
        state(Checks.gives("LET 0 APP FN 1 THROW YIELD NIL NIL SEQ RESUME VAR 0 NIL "
            + "SEQ TRY 2 RESUME VAR 0 NUM 8 NIL RESUME VAR 0 NIL", Checks.NIL, 0), 0, 3, -1);
        // A body that ends before its YIELD.
        state(Checks.gives("LET 0 APP FN 1 IF VAR 1 YIELD NIL NUM 7 NIL RESUME VAR 0 NIL", Checks.INT, 7), 0, 3, -1);
        state(Checks.throwsCode("LET 0 APP FN 1 SEQ THROW NUM 4 YIELD NIL NIL RESUME VAR 0 NIL", 4), 0, 3, -1);
        Checks.noted(Checks.gives("LET 0 APP FN 1 IF VAR 1 YIELD NIL NUM 7 NIL "
            + "SEQ RESUME VAR 0 NIL RESUME VAR 0 HOST NUM 3", Checks.NIL, 0), 3);
    }

    private static void done() {
        String made = "LET 0 APP FN 1 YIELD NUM 5 NIL ";
        Checks.gives(made + "DONE VAR 0", Checks.INT, 0);
        Checks.gives(made + "SEQ RESUME VAR 0 NIL DONE VAR 0", Checks.INT, 0);
        Checks.gives(made + "SEQ RESUME VAR 0 NIL SEQ RESUME VAR 0 NIL DONE VAR 0", Checks.INT, 1);
        Checks.gives(made + "SEQ CLOSE VAR 0 DONE VAR 0", Checks.INT, 1);
        Checks.gives("LET 0 NIL SEQ SET 0 APP FN 1 YIELD DONE VAR 0 NIL RESUME VAR 0 NIL", Checks.INT, 0);
        Checks.throwsCode("DONE NIL", -3);
        Checks.throwsCode("DONE NUM 0", -3);
        Checks.throwsCode("DONE FN 0 YIELD NIL", -3);
    }

    private static void close() {
        String made = "LET 0 APP FN 1 SEQ HOST NUM 1 SEQ YIELD NUM 5 HOST NUM 2 NIL ";
        ScriptBench bench = Checks.gives(made + "CLOSE VAR 0", Checks.NIL, 0);
        Checks.noted(bench);
        state(bench, 0, 3, -1);
        bench = Checks.gives(made + "SEQ RESUME VAR 0 NIL CLOSE VAR 0", Checks.NIL, 0);
        Checks.noted(bench, 1);
        state(bench, 0, 3, -1);
        bench = Checks.gives(made + "SEQ RESUME VAR 0 NIL SEQ CLOSE VAR 0 SEQ CLOSE VAR 0 RESUME VAR 0 NIL", Checks.NIL, 0);
        Checks.noted(bench, 1);
        Checks.gives(made + "SEQ CLOSE VAR 0 RESUME VAR 0 NUM 4", Checks.NIL, 0);
        // CLOSING ends at the generator's body; who closed it goes on.
        Checks.gives(made + "SEQ RESUME VAR 0 NIL SEQ CLOSE VAR 0 NUM 7", Checks.INT, 7);
        Checks.gives(made + "SEQ RESUME VAR 0 NIL SAME NIL CLOSE VAR 0", Checks.INT, 1);
        Checks.gives(made + "SEQ RESUME VAR 0 NIL SEQ CLOSE VAR 0 DONE VAR 0", Checks.INT, 1);
        // TRY does not catch CLOSING.
        bench = Checks.gives("LET 0 APP FN 1 TRY 2 YIELD NIL HOST NUM 3 NIL SEQ RESUME VAR 0 NIL CLOSE VAR 0", Checks.NIL, 0);
        Checks.noted(bench);
        Checks.throwsCode("CLOSE NIL", -3);
        Checks.throwsCode("CLOSE NUM 0", -3);
        Checks.throwsCode("CLOSE FN 0 YIELD NIL", -3);
    }

    private static ScriptBench closed(String body, int how, int sort, long number) {
        ScriptBench bench = Checks.ended("LET 0 APP FN 1 " + body + " NIL SEQ RESUME VAR 0 NIL CLOSE VAR 0", how, sort, number);
        state(bench, 0, 3, -1);
        return bench;
    }

    private static void closeWithFinally() {
        int value = ScriptBench.VALUE;
        int thrown = ScriptBench.THROWN;
        Checks.noted(closed("FINALLY YIELD NIL HOST NUM 3", value, Checks.NIL, 0), 3);
        Checks.noted(closed("FINALLY FINALLY YIELD NIL HOST NUM 3 HOST NUM 4", value, Checks.NIL, 0), 3, 4);
        Checks.noted(closed("SEQ FINALLY YIELD NIL HOST NUM 3 HOST NUM 4", value, Checks.NIL, 0), 3);
        Checks.noted(closed("SEQ FINALLY YIELD NIL RETURN HOST NUM 3 HOST NUM 4", value, Checks.NIL, 0), 3);
        Checks.noted(closed("FINALLY YIELD NIL THROW HOST NUM 3", thrown, Checks.INT, 3), 3);
        // The YIELD's E ended already: a YIELD that stands in F throws -4, behind its E.
        Checks.noted(closed("FINALLY YIELD NIL YIELD HOST NUM 3", thrown, Checks.INT, -4), 3);
        Checks.noted(closed("FINALLY YIELD NIL YIELD THROW HOST NUM 3", thrown, Checks.INT, 3), 3);
        Checks.noted(closed("FINALLY YIELD NIL TRY 2 YIELD NIL HOST ADD VAR 2 NUM 9", value, Checks.NIL, 0), 5);
    }

    private static void closeThatGoesOn() {
        int value = ScriptBench.VALUE;
        int thrown = ScriptBench.THROWN;
        // F's BREAK takes the place of CLOSING; the body goes on and ends with a value.
        Checks.noted(closed("SEQ WHILE NUM 1 FINALLY YIELD NIL BREAK HOST NUM 4", value, Checks.NIL, 0), 4);
        Checks.noted(closed("SEQ WHILE NUM 1 FINALLY YIELD NIL BREAK RETURN HOST NUM 4", value, Checks.NIL, 0), 4);
        Checks.noted(closed("SEQ WHILE NUM 1 FINALLY YIELD NIL BREAK THROW HOST NUM 4", thrown, Checks.INT, 4), 4);
        closed("SEQ WHILE NUM 1 FINALLY YIELD NIL BREAK YIELD NUM 4", thrown, Checks.INT, -4);
        Checks.noted(closed("TRY 2 FINALLY YIELD NIL THROW NUM 6 HOST VAR 2", value, Checks.NIL, 0), 6);
        Checks.noted(closed("SEQ WHILE NUM 1 FINALLY YIELD NIL BREAK TRY 2 YIELD NIL THROW HOST ADD VAR 2 NUM 5",
            thrown, Checks.INT, 1), 1);
        // Other generators may be made, resumed and closed meanwhile.
        Checks.noted(closed("FINALLY YIELD NIL LET 2 APP FN 3 HOST YIELD NUM 2 NIL "
            + "SEQ HOST RESUME VAR 2 NIL RESUME VAR 2 NUM 7", value, Checks.NIL, 0), 2, 7);
    }

    private static void atWork() {
        String made = "LET 0 NIL SEQ SET 0 APP FN 1 ";
        state(Checks.throwsCode(made + "YIELD RESUME VAR 0 NIL NIL RESUME VAR 0 NIL", -4), 0, 3, -1);
        state(Checks.throwsCode(made + "YIELD CLOSE VAR 0 NIL RESUME VAR 0 NIL", -4), 0, 3, -1);
        state(Checks.gives(made + "YIELD TRY 2 CLOSE VAR 0 VAR 2 NIL RESUME VAR 0 NIL", Checks.INT, -4), 0, 1, 6);
        state(Checks.gives(made + "FINALLY YIELD NIL HOST TRY 2 RESUME VAR 0 NIL SUB NUM 0 VAR 2 NIL "
            + "SEQ RESUME VAR 0 NIL CLOSE VAR 0", Checks.NIL, 0), 0, 3, -1);
        state(Checks.throwsCode(made + "FINALLY YIELD NIL CLOSE VAR 0 NIL SEQ RESUME VAR 0 NIL CLOSE VAR 0", -4), 0, 3, -1);
        // A generator that resumes another one is still AT WORK.
        ScriptBench bench = Checks.gives("LET 0 NIL LET 1 NIL SEQ SET 0 APP FN 2 YIELD RESUME VAR 1 NIL NIL SEQ "
            + "SET 1 APP FN 2 YIELD TRY 3 RESUME VAR 0 NIL VAR 3 NIL RESUME VAR 0 NIL", Checks.INT, -4);
        Checks.due("both wait", bench.generator(0) * 10 + bench.generator(1), 11);
        // Also when a FUNCTION stands between them.
        Checks.throwsCode(made + "YIELD APP FN 2 RESUME VAR 0 NIL NIL NIL RESUME VAR 0 NIL", -4);
    }

    private static void variables() {
        // F's value of APP is the generator's own variable, from one RESUME to the next.
        Checks.gives("LET 0 FN 1 SEQ YIELD VAR 1 VAR 1 LET 2 APP VAR 0 NUM 4 LET 3 APP VAR 0 NUM 50 "
            + "SEQ RESUME VAR 2 NIL SEQ RESUME VAR 3 NIL ADD RESUME VAR 2 NIL RESUME VAR 3 NIL", Checks.INT, 54);
        // It shares the variables around its FN.
        Checks.gives("LET 0 NUM 1 LET 1 APP FN 2 SEQ YIELD NIL VAR 0 NIL SEQ RESUME VAR 1 NIL "
            + "SEQ SET 0 NUM 6 RESUME VAR 1 NIL", Checks.INT, 6);
        // Names inside a LET of the body keep their meaning while it waits.
        Checks.gives("LET 0 APP FN 1 LET 2 NUM 5 SEQ YIELD NIL VAR 2 NIL LET 2 NUM 9 SEQ RESUME VAR 0 NIL RESUME VAR 0 NIL",
            Checks.INT, 5);
        // The resumer is not the maker.
        Checks.gives("LET 0 APP FN 1 YIELD NUM 3 NIL APP FN 2 ADD RESUME VAR 0 NIL VAR 2 NUM 4", Checks.INT, 7);
    }

    private static void generatorsInGenerators() {
        ScriptBench bench = Checks.gives("LET 0 FN 1 WHILE NUM 1 YIELD SET 1 ADD VAR 1 NUM 1 "
            + "LET 2 APP FN 3 LET 4 APP VAR 0 VAR 3 WHILE NUM 1 YIELD MUL NUM 2 RESUME VAR 4 NIL NUM 10 "
            + "SEQ RESUME VAR 2 NIL RESUME VAR 2 NIL", Checks.INT, 24);
        state(bench, 0, 1, 18);
        state(bench, 1, 1, 4);
        // A YIELD has an FN of its own: inside a plain FN the generator's is not meant.
        Checks.gives("LET 0 APP FN 1 YIELD APP FN 2 ADD VAR 2 NUM 1 NUM 4 NIL RESUME VAR 0 NIL", Checks.INT, 5);
        Checks.throwsCode("LET 0 APP FN 1 SEQ YIELD NIL THROW NUM 5 NIL "
            + "LET 2 APP FN 3 SEQ YIELD RESUME VAR 0 NIL RESUME VAR 0 NIL NIL "
            + "SEQ RESUME VAR 2 NIL RESUME VAR 2 NIL", 5);
    }
}
