/** The boundary cases of "GENERATORS" and "LIMITS": each method tests the sentence that stands above it. */
public final class BoundaryGeneratorTest {
    private static final int NOT_BEGUN = 0, WAITS = 1, AT_WORK = 2, ENDED = 3;
    private static final String MADE = "LET 0 APP FN 1 SEQ YIELD NUM 5 NUM 6 NIL ";
    private static final String RESUMED = "SEQ RESUME VAR 0 NIL ";
    // f(n) calls itself n times, so the script and n + 1 bodies are at work where the deepest one
    // works out what stands behind this; with n = 6 these are eight.
    private static final String DESCEND = "LET 0 NIL SEQ SET 0 FN 1 IF VAR 1 APP VAR 0 SUB VAR 1 NUM 1 ";
    private static final String DEEPEST = " APP VAR 0 NUM 6 ";

    private static final String[] VALUES = {"NIL", "NUM -5", "MUL NUM 65536 NUM 65536", "FN 5 NIL", "APP FN 5 YIELD NIL NIL"};
    private static final int[] SORTS = {Checks.NIL, Checks.INT, Checks.LONG, Checks.FUNCTION, Checks.GENERATOR};

    public static void main(String[] args) {
        notBegun();
        waiting();
        ended();
        atWork();
        atWorkWhileClosed();
        noGenerator();
        bodyBegins();
        valuesGoBothWays();
        whatTheBodyEndsWith();
        closingIsNotCaught();
        closingEndsLoops();
        yieldsThrowFromThenOn();
        otherGeneratorsYieldMeanwhile();
        closeHasNoValue();
        closeThrowsWhatItThrew();
        steps();
        ninthActivationByApp();
        ninthActivationByResume();
        ninthActivationByClose();
        ninthOfGenerators();
        onlyAtOnce();
        notBegunAnyway();
        ninthGenerator();
        ninthGeneratorAtEightActivations();
        Checks.end();
    }

    private static void state(String what, ScriptBench bench, int g, int state, int place) {
        Checks.due(what + ": generator " + g, bench.generator(g), state);
        Checks.due(what + ": waits " + g, bench.waits(g), place);
    }

    private static void gives(String script, int sort, long number, int state, int place) {
        state(script, Checks.gives(script, sort, number), 0, state, place);
    }

    private static void throwsCode(String script, int code, int state, int place) {
        state(script, Checks.throwsCode(script, code), 0, state, place);
    }

    // "for a GENERATOR FN the value is a new GENERATOR that has NOT BEGUN"; CLOSE: "if it has NOT BEGUN it has
    // ENDED then: NIL"
    private static void notBegun() {
        gives(MADE + "VAR 0", Checks.GENERATOR, 0, NOT_BEGUN, -1);
        gives(MADE + "RESUME VAR 0 NUM 7", Checks.INT, 5, WAITS, 4);
        gives(MADE + "DONE VAR 0", Checks.INT, 0, NOT_BEGUN, -1);
        gives(MADE + "CLOSE VAR 0", Checks.NIL, 0, ENDED, -1);
        // Nothing of a body that has not begun is worked out, not even the F of a FINALLY.
        Checks.noted(Checks.gives("CLOSE APP FN 1 FINALLY YIELD HOST NUM 8 HOST NUM 8 HOST NUM 1", Checks.NIL, 0), 1);
    }

    // "With YIELD it WAITS"
    private static void waiting() {
        gives(MADE + RESUMED + "VAR 0", Checks.GENERATOR, 0, WAITS, 4);
        gives(MADE + RESUMED + "RESUME VAR 0 NUM 7", Checks.INT, 6, ENDED, -1);
        gives(MADE + RESUMED + "DONE VAR 0", Checks.INT, 0, WAITS, 4);
        gives(MADE + RESUMED + "CLOSE VAR 0", Checks.NIL, 0, ENDED, -1);
    }

    // RESUME "is NIL if it has ENDED"; "DONE: INT 1 if it has ENDED, else 0. CLOSE: NIL if it has ENDED"
    private static void ended() {
        String threw = "LET 0 APP FN 1 THROW YIELD NIL NIL SEQ RESUME VAR 0 NIL SEQ TRY 2 RESUME VAR 0 NUM 9 NIL ";
        String returned = "LET 0 APP FN 1 SEQ RETURN NUM 9 YIELD NIL NIL SEQ RESUME VAR 0 NIL ";
        String threwAtClose = "LET 0 APP FN 1 FINALLY YIELD NIL THROW NIL NIL SEQ RESUME VAR 0 NIL SEQ TRY 2 CLOSE VAR 0 NIL ";
        String[] endings = {MADE + RESUMED + RESUMED, MADE + "SEQ CLOSE VAR 0 ", MADE + RESUMED + "SEQ CLOSE VAR 0 ", threw, returned,
            threwAtClose};
        for (String how : endings) {
            gives(how + "RESUME VAR 0 NUM 7", Checks.NIL, 0, ENDED, -1);
            gives(how + "SEQ RESUME VAR 0 NUM 7 RESUME VAR 0 NUM 7", Checks.NIL, 0, ENDED, -1);
            gives(how + "DONE VAR 0", Checks.INT, 1, ENDED, -1);
            gives(how + "CLOSE VAR 0", Checks.NIL, 0, ENDED, -1);
            gives(how + "SEQ CLOSE VAR 0 CLOSE VAR 0", Checks.NIL, 0, ENDED, -1);
            Checks.noted(Checks.gives(how + "RESUME VAR 0 HOST NUM 7", Checks.NIL, 0), 7);
        }
    }

    // "RESUME throws -4 if it is AT WORK"; CLOSE "throws -4 if it is AT WORK"
    private static void atWork() {
        String made = "LET 0 NIL SEQ SET 0 APP FN 1 YIELD ";
        String[] ways = {"@", "APP FN 3 @ NIL", "RESUME APP FN 3 YIELD @ NIL NIL"};
        for (String way : ways) {
            String rest = " NIL RESUME VAR 0 NIL";
            throwsCode(made + way.replace("@", "RESUME VAR 0 NIL") + rest, -4, ENDED, -1);
            throwsCode(made + way.replace("@", "CLOSE VAR 0") + rest, -4, ENDED, -1);
            gives(made + way.replace("@", "DONE VAR 0") + rest, Checks.INT, 0, WAITS, 6);
            // Who catches -4 goes on, and the generator is AT WORK as before.
            gives(made + way.replace("@", "TRY 2 RESUME VAR 0 NIL VAR 2") + rest, Checks.INT, -4, WAITS, 6);
            gives(made + way.replace("@", "TRY 2 CLOSE VAR 0 VAR 2") + rest, Checks.INT, -4, WAITS, 6);
        }
        // After a YIELD it is AT WORK again.
        throwsCode("LET 0 NIL SEQ SET 0 APP FN 1 SEQ YIELD NIL RESUME VAR 0 NIL NIL SEQ RESUME VAR 0 NIL RESUME VAR 0 NIL",
            -4, ENDED, -1);
        ScriptBench bench = Checks.compiled(made + "WHILE NUM 1 NIL NIL RESUME VAR 0 NIL");
        Checks.due("an endless body", bench.run(600), ScriptBench.LONG);
        state("an endless body", bench, 0, AT_WORK, -1);
    }

    // "If it WAITS it is AT WORK" while CLOSE works its body out
    private static void atWorkWhileClosed() {
        String made = "LET 0 NIL SEQ SET 0 APP FN 1 FINALLY YIELD NIL ";
        String rest = " NIL SEQ RESUME VAR 0 NIL CLOSE VAR 0";
        Checks.noted(Checks.gives(made + "HOST DONE VAR 0" + rest, Checks.NIL, 0), 0);
        throwsCode(made + "RESUME VAR 0 NIL" + rest, -4, ENDED, -1);
        throwsCode(made + "CLOSE VAR 0" + rest, -4, ENDED, -1);
        Checks.noted(Checks.gives(made + "TRY 2 RESUME VAR 0 NIL HOST SUB NUM 0 VAR 2" + rest, Checks.NIL, 0), 4);
        Checks.noted(Checks.gives(made + "TRY 2 CLOSE VAR 0 HOST SUB NUM 0 VAR 2" + rest, Checks.NIL, 0), 4);
        ScriptBench bench = Checks.compiled(made + "WHILE NUM 1 NIL" + rest);
        Checks.due("an endless F", bench.run(600), ScriptBench.LONG);
        state("an endless F", bench, 0, AT_WORK, -1);
    }

    // "RESUME, DONE and CLOSE throw -3 if E's value is none."
    private static void noGenerator() {
        // Name 0 is generator 0, so that a number 0 could be taken for it.
        String[] others = {"NIL", "NUM 0", "LET 3 MUL NUM 65536 NUM 65536 SUB VAR 3 VAR 3", "FN 3 NIL", "FN 3 YIELD NIL"};
        for (String other : others) {
            throwsCode(MADE + "RESUME " + other + " NIL", -3, NOT_BEGUN, -1);
            throwsCode(MADE + "DONE " + other, -3, NOT_BEGUN, -1);
            throwsCode(MADE + "CLOSE " + other, -3, NOT_BEGUN, -1);
            throwsCode(MADE + RESUMED + "RESUME " + other + " NIL", -3, WAITS, 4);
            throwsCode(MADE + RESUMED + "CLOSE " + other, -3, WAITS, 4);
        }
        // Promise 14: all operands of RESUME are worked out before one of them is tested.
        Checks.noted(Checks.throwsCode("RESUME NIL HOST NUM 3", -3), 3);
        Checks.noted(Checks.throwsCode("LET 0 APP FN 1 IF VAR 1 YIELD NIL NIL NUM 1 RESUME VAR 0 RESUME NIL HOST NUM 3", -3), 3);
        // F may change the state that RESUME then tests.
        gives(MADE + "RESUME VAR 0 CLOSE VAR 0", Checks.NIL, 0, ENDED, -1);
        gives(MADE + "RESUME VAR 0 RESUME VAR 0 NIL", Checks.INT, 6, ENDED, -1);
    }

    // "its body begins, or the YIELD at which it WAITS has F's value"
    private static void bodyBegins() {
        Checks.noted(Checks.gives("LET 0 APP FN 1 SEQ HOST NUM 2 HOST YIELD VAR 1 HOST NUM 1 "
            + "SEQ RESUME VAR 0 HOST NUM 7 RESUME VAR 0 NUM 3", Checks.INT, 3), 1, 7, 2, 3);
        // The first RESUME's F is nobody's value: the body has that of APP.
        gives("LET 0 APP FN 1 YIELD VAR 1 NUM 4 RESUME VAR 0 NUM 7", Checks.INT, 4, WAITS, 3);
    }

    // "the YIELD ... has F's value"; "the value of RESUME is that of YIELD's E"
    private static void valuesGoBothWays() {
        for (int n = 0; n < VALUES.length; n++) {
            String in = "LET 0 APP FN 1 THROW YIELD NIL NIL SEQ RESUME VAR 0 NIL RESUME VAR 0 " + VALUES[n];
            long inNumber = n == 1 ? -5 : n == 2 ? 1L << 32 : n == 3 ? 13 : n == 4 ? 1 : 0;
            Checks.throwsIt(in, SORTS[n], inNumber);
            String out = "LET 0 APP FN 1 YIELD " + VALUES[n] + " NIL RESUME VAR 0 NIL";
            long outNumber = n == 1 ? -5 : n == 2 ? 1L << 32 : n == 3 ? 4 : n == 4 ? 1 : 0;
            gives(out, SORTS[n], outNumber, WAITS, 3);
        }
    }

    // "When its body ends, it has ENDED: RESUME has the value (or what was RETURNed), or throws what it threw."
    private static void whatTheBodyEndsWith() {
        for (int n = 0; n < VALUES.length; n++) {
            long number = n == 1 ? -5 : n == 2 ? 1L << 32 : n == 4 ? 1 : 0;
            long atFive = n == 3 ? 5 : number;
            String rest = VALUES[n] + " YIELD NIL NIL RESUME VAR 0 NIL";
            gives("LET 0 APP FN 1 FINALLY " + VALUES[n] + " IF VAR 1 YIELD NIL NIL NIL RESUME VAR 0 NIL", SORTS[n],
                n == 3 ? 4 : number, ENDED, -1);
            gives("LET 0 APP FN 1 SEQ RETURN " + rest, SORTS[n], atFive, ENDED, -1);
            String threw = "LET 0 APP FN 1 SEQ THROW " + rest;
            state(threw, Checks.throwsIt(threw, SORTS[n], atFive), 0, ENDED, -1);
        }
    }

    private static ScriptBench closed(String body, int how, int sort, long number) {
        String script = "LET 0 APP FN 1 " + body + " NIL SEQ RESUME VAR 0 NIL CLOSE VAR 0";
        ScriptBench bench = Checks.ended(script, how, sort, number);
        state(script, bench, 0, ENDED, -1);
        return bench;
    }

    private static ScriptBench closed(String body) {
        return closed(body, ScriptBench.VALUE, Checks.NIL, 0);
    }

    // "its YIELD ends by CLOSING (which TRY does not catch)"
    private static void closingIsNotCaught() {
        Checks.noted(closed("TRY 2 YIELD NIL HOST NUM 8"));
        Checks.noted(closed("TRY 2 TRY 3 YIELD NIL HOST NUM 8 HOST NUM 8"));
        Checks.noted(closed("SEQ TRY 2 YIELD NIL HOST NUM 8 HOST NUM 8"));
        Checks.noted(closed("TRY 2 THROW NUM 1 SEQ YIELD NIL HOST NUM 8"));
        // A throw in the F of a FINALLY takes its place, and that is caught.
        Checks.noted(closed("TRY 2 FINALLY YIELD NIL THROW NUM 3 HOST VAR 2"), 3);
        // The script goes on behind CLOSE, also inside a TRY and a loop of its own.
        Checks.gives(MADE + RESUMED + "TRY 2 SEQ CLOSE VAR 0 NUM 7 NUM 8", Checks.INT, 7);
        Checks.gives(MADE + RESUMED + "WHILE NUM 1 SEQ CLOSE VAR 0 RETURN NUM 7", Checks.INT, 7);
        Checks.gives(MADE + RESUMED + "ADD NUM 1 APP FN 2 SEQ CLOSE VAR 0 NUM 7 NIL", Checks.INT, 8);
    }

    // CLOSING is neither BREAK nor NEXT: it ends each WHILE on its way, and what stands behind.
    private static void closingEndsLoops() {
        Checks.noted(closed("SEQ WHILE NUM 1 YIELD NIL HOST NUM 8"));
        Checks.noted(closed("LET 2 NUM 2 SEQ WHILE HOST SET 2 SUB VAR 2 NUM 1 YIELD NIL HOST NUM 8"), 1);
        Checks.noted(closed("SEQ WHILE YIELD NIL NIL HOST NUM 8"));
        Checks.noted(closed("WHILE NUM 1 SEQ WHILE NUM 1 YIELD NIL HOST NUM 8"));
        Checks.noted(closed("WHILE NUM 1 FINALLY YIELD NIL HOST NUM 3"), 3);
        // But a BREAK, NEXT or RETURN in the F of a FINALLY takes its place.
        Checks.noted(closed("SEQ WHILE NUM 1 FINALLY YIELD NIL BREAK HOST NUM 3"), 3);
        Checks.noted(closed("LET 2 NUM 2 SEQ WHILE SET 2 SUB HOST VAR 2 NUM 1 FINALLY YIELD NIL NEXT HOST NUM 3"), 2, 1, 3);
        Checks.noted(closed("SEQ FINALLY YIELD NIL RETURN HOST NUM 3 HOST NUM 8"), 3);
        Checks.noted(closed("FINALLY SEQ FINALLY YIELD NIL HOST NUM 1 HOST NUM 8 HOST NUM 2"), 1, 2);
    }

    // "from then on each YIELD in it throws -4, behind its E"
    private static void yieldsThrowFromThenOn() {
        String yield = "TRY 2 YIELD HOST NUM 1 HOST SUB NUM 0 VAR 2 ";
        Checks.noted(closed("FINALLY YIELD NIL " + yield), 1, 4);
        Checks.noted(closed("FINALLY YIELD NIL SEQ " + yield + yield), 1, 4, 1, 4);
        Checks.noted(closed("FINALLY FINALLY YIELD NIL " + yield + yield), 1, 4, 1, 4);
        Checks.noted(closed("SEQ WHILE NUM 1 FINALLY YIELD NIL BREAK " + yield), 1, 4);
        Checks.noted(closed("FINALLY YIELD NIL YIELD HOST NUM 1", ScriptBench.THROWN, Checks.INT, -4), 1);
        Checks.noted(closed("FINALLY YIELD NIL YIELD THROW HOST NUM 1", ScriptBench.THROWN, Checks.INT, 1), 1);
        Checks.noted(closed("FINALLY YIELD NIL YIELD YIELD HOST NUM 1", ScriptBench.THROWN, Checks.INT, -4), 1);
        // The E of the YIELD at which it waits is not worked out again.
        Checks.noted(closed("YIELD HOST NUM 1"), 1);
        // A YIELD in F that waited before the CLOSE is the one that ends by CLOSING.
        Checks.noted(closed("FINALLY NUM 1 SEQ YIELD NIL HOST NUM 8"));
        Checks.noted(closed("FINALLY THROW NUM 1 SEQ YIELD NIL HOST NUM 8"));
    }

    // "in it": other generators that are at work meanwhile YIELD as ever
    private static void otherGeneratorsYieldMeanwhile() {
        Checks.noted(closed("FINALLY YIELD NIL HOST RESUME APP FN 2 YIELD NUM 3 NIL NIL"), 3);
        String script = "LET 3 APP FN 2 YIELD NUM 3 NIL LET 0 APP FN 1 FINALLY YIELD NIL HOST RESUME VAR 3 NIL NIL "
            + "SEQ RESUME VAR 0 NIL CLOSE VAR 0";
        ScriptBench bench = Checks.gives(script, Checks.NIL, 0);
        Checks.noted(bench, 3);
        state(script, bench, 0, WAITS, 3);
        state(script, bench, 1, ENDED, -1);
        // A new generator of the same FN is not closed, either.
        Checks.gives("LET 2 FN 1 WHILE NUM 1 YIELD VAR 1 LET 0 APP VAR 2 NUM 3 SEQ RESUME VAR 0 NIL SEQ CLOSE VAR 0 "
            + "LET 0 APP VAR 2 NUM 4 SEQ RESUME VAR 0 NIL RESUME VAR 0 NIL", Checks.INT, 4);
    }

    // "When its body has ended, by CLOSING, with a value or RETURN, it has ENDED: NIL"
    private static void closeHasNoValue() {
        for (String value : VALUES) {
            closed("SEQ YIELD NIL " + value);
            closed("SEQ WHILE NUM 1 FINALLY YIELD NIL BREAK " + value);
            closed("FINALLY YIELD NIL RETURN " + value);
            closed("FINALLY YIELD " + value + " " + value);
        }
    }

    // "if it threw, CLOSE throws that"
    private static void closeThrowsWhatItThrew() {
        long[] numbers = {0, -5, 1L << 32, 7, 1};
        for (int n = 0; n < VALUES.length; n++) {
            closed("FINALLY YIELD NIL THROW " + VALUES[n], ScriptBench.THROWN, SORTS[n], numbers[n]);
        }
        Checks.gives("LET 0 APP FN 1 FINALLY YIELD NIL THROW NUM 3 NIL SEQ RESUME VAR 0 NIL TRY 2 CLOSE VAR 0 VAR 2", Checks.INT, 3);
        closed("FINALLY YIELD NIL HOST NUM -3", ScriptBench.THROWN, Checks.INT, -3);
        closed("FINALLY YIELD NIL DIV NUM 1 NUM 0", ScriptBench.THROWN, Checks.INT, -1);
    }

    // "A STEP is taken whenever a token begins to be worked out."
    private static void steps() {
        Checks.due("made", Checks.gives(MADE + "VAR 0", Checks.GENERATOR, 0).steps(), 5);
        Checks.due("resumed", Checks.gives(MADE + "RESUME VAR 0 NIL", Checks.INT, 5).steps(), 10);
        // The YIELD goes on without another step.
        Checks.due("resumed twice", Checks.gives(MADE + RESUMED + "RESUME VAR 0 NIL", Checks.INT, 6).steps(), 15);
        Checks.due("resumed and closed", Checks.gives(MADE + RESUMED + "CLOSE VAR 0", Checks.NIL, 0).steps(), 13);
        Checks.due("ENDED and resumed", Checks.gives(MADE + "SEQ CLOSE VAR 0 RESUME VAR 0 NIL", Checks.NIL, 0).steps(), 10);
    }

    // "a ninth one at once is not begun, APP ... throw -5"
    private static void ninthActivationByApp() {
        Checks.gives(DESCEND + "NUM 3" + DEEPEST, Checks.INT, 3);
        Checks.throwsCode(DESCEND + "APP FN 2 NUM 3 NIL" + DEEPEST, -5);
        Checks.noted(Checks.throwsCode(DESCEND + "APP FN 2 HOST NUM 8 HOST NUM 1" + DEEPEST, -5), 1);
        Checks.gives(DESCEND + "TRY 2 APP FN 2 NUM 3 NIL VAR 2" + DEEPEST, Checks.INT, -5);
        Checks.noted(Checks.throwsCode(DESCEND + "FINALLY APP FN 2 NUM 3 NIL HOST NUM 1" + DEEPEST, -5), 1);
        Checks.throwsCode(DESCEND + "APP NUM 3 NIL" + DEEPEST, -3);
    }

    private static String atTheLimit(String before, String deepest) {
        return "LET 3 APP FN 2 SEQ YIELD NUM 5 NUM 6 NIL SEQ " + before + " TRY 4 " + DESCEND + deepest + DEEPEST
            + "SEQ HOST SUB NUM 0 VAR 4 ";
    }

    // "RESUME ... throw -5 (a generator stays as it is)"
    private static void ninthActivationByResume() {
        throwsCode(atTheLimit("NIL", "RESUME VAR 3 NIL") + "THROW VAR 4", -5, NOT_BEGUN, -1);
        throwsCode(atTheLimit("RESUME VAR 3 NIL", "RESUME VAR 3 NIL") + "THROW VAR 4", -5, WAITS, 4);
        // Less deep it goes on as if nothing had been.
        gives(atTheLimit("NIL", "RESUME VAR 3 NIL") + "RESUME VAR 3 NIL", Checks.INT, 5, WAITS, 4);
        gives(atTheLimit("RESUME VAR 3 NIL", "RESUME VAR 3 NIL") + "RESUME VAR 3 NIL", Checks.INT, 6, ENDED, -1);
        Checks.noted(Checks.gives(atTheLimit("NIL", "RESUME VAR 3 HOST NUM 1") + "NIL", Checks.NIL, 0), 1, 5);
    }

    // "CLOSE throw -5 (a generator stays as it is)"
    private static void ninthActivationByClose() {
        throwsCode(atTheLimit("RESUME VAR 3 NIL", "CLOSE VAR 3") + "THROW VAR 4", -5, WAITS, 4);
        gives(atTheLimit("RESUME VAR 3 NIL", "CLOSE VAR 3") + "RESUME VAR 3 NIL", Checks.INT, 6, ENDED, -1);
        gives(atTheLimit("RESUME VAR 3 NIL", "CLOSE VAR 3") + "CLOSE VAR 3", Checks.NIL, 0, ENDED, -1);
        // It was not closed then, so its next YIELD waits.
        gives("LET 3 APP FN 2 WHILE NUM 1 YIELD NUM 5 NIL SEQ RESUME VAR 3 NIL TRY 4 " + DESCEND + "CLOSE VAR 3" + DEEPEST
            + "RESUME VAR 3 NIL", Checks.INT, 5, WAITS, 5);
    }

    // "ACTIVATIONS are the script, bodies of FUNCTIONs and generators AT WORK"
    private static void ninthOfGenerators() {
        // Each generator resumes a new one: seven are at work with the script, the eighth is not begun.
        String chain = "LET 0 NIL SEQ SET 0 FN 1 YIELD IF VAR 1 RESUME APP VAR 0 SUB VAR 1 NUM 1 NIL NUM 4 RESUME APP VAR 0 ";
        Checks.gives(chain + "NUM 6 NIL", Checks.INT, 4);
        ScriptBench bench = Checks.throwsCode(chain + "NUM 7 NIL", -5);
        for (int g = 0; g < 7; g++) {
            state("it passed the throw on", bench, g, ENDED, -1);
        }
        state("it was not begun", bench, 7, NOT_BEGUN, -1);
        // Functions and generators count alike: a body in a generator in a body, and so on.
        String mixed = "LET 0 NIL SEQ SET 0 FN 1 IF VAR 1 RESUME APP FN 2 YIELD APP VAR 0 SUB VAR 1 NUM 1 NIL NIL ";
        Checks.gives(mixed + "NUM 4 APP VAR 0 NUM 3", Checks.INT, 4);
        Checks.throwsCode(mixed + "NUM 4 APP VAR 0 NUM 4", -5);
        Checks.throwsCode(mixed + "APP FN 2 NIL NIL APP VAR 0 NUM 3", -5);
        // A generator that is being closed counts, too.
        String closing = "LET 4 APP FN 5 FINALLY YIELD NIL HOST " + DESCEND + "NUM 3 APP VAR 0 VAR 5 ";
        Checks.noted(Checks.gives(closing + "NUM 5 SEQ RESUME VAR 4 NIL CLOSE VAR 4", Checks.NIL, 0), 3);
        Checks.throwsCode(closing + "NUM 6 SEQ RESUME VAR 4 NIL CLOSE VAR 4", -5);
    }

    // "at once": those that have ended, or wait, do not count, however they ended
    private static void onlyAtOnce() {
        String[] ways = {"APP FN 2 NIL NIL", "APP FN 2 RETURN NIL NIL", "TRY 2 APP FN 2 THROW NIL NIL NIL",
            "TRY 2 APP FN 2 FINALLY THROW NIL NIL NIL NIL", "RESUME VAR 4 NIL", "TRY 2 APP FN 2 DIV NUM 1 NUM 0 NIL NIL"};
        for (String way : ways) {
            Checks.gives("LET 4 APP FN 2 WHILE NUM 1 YIELD NIL NIL LET 3 NUM 12 SEQ WHILE SET 3 SUB VAR 3 NUM 1 " + way + " "
                + DESCEND + "NUM 3" + DEEPEST, Checks.INT, 3);
        }
        String[] ends = {"SEQ RESUME VAR 4 NIL CLOSE VAR 4", "SEQ RESUME VAR 4 NIL RESUME VAR 4 NIL", "CLOSE VAR 4",
            "SEQ RESUME VAR 4 NIL TRY 2 RESUME VAR 4 NUM 1 NIL"};
        for (String end : ends) {
            String before = "LET 3 NUM 8 SEQ WHILE SET 3 SUB VAR 3 NUM 1 "
                + "LET 4 APP FN 2 IF YIELD NIL THROW NIL RETURN NIL NIL " + end + " ";
            Checks.gives(before + DESCEND + "NUM 3" + DEEPEST, Checks.INT, 3);
            Checks.throwsCode(before + DESCEND + "APP FN 2 NIL NIL" + DEEPEST, -5);
        }
    }

    // What begins no activation is done with eight of them, too.
    private static void notBegunAnyway() {
        gives(atTheLimit("CLOSE VAR 3", "RESUME VAR 3 NIL") + "NIL", Checks.NIL, 0, ENDED, -1);
        gives(atTheLimit("CLOSE VAR 3", "SAME NIL RESUME VAR 3 NIL") + "NIL", Checks.INT, 1, ENDED, -1);
        gives(atTheLimit("CLOSE VAR 3", "SAME NIL CLOSE VAR 3") + "NIL", Checks.INT, 1, ENDED, -1);
        gives(atTheLimit("NIL", "SAME NIL CLOSE VAR 3") + "NIL", Checks.INT, 1, ENDED, -1);
        gives(atTheLimit("NIL", "DONE VAR 3") + "NIL", Checks.INT, 0, NOT_BEGUN, -1);
        gives(DESCEND + "APP FN 2 YIELD NIL NIL" + DEEPEST, Checks.GENERATOR, 0, NOT_BEGUN, -1);
        // AT WORK: -4, as nothing would begin.
        String atWork = "LET 4 NIL SEQ SET 4 APP FN 5 SEQ " + DESCEND;
        throwsCode(atWork + "RESUME VAR 4 NIL APP VAR 0 NUM 5 YIELD NIL NIL RESUME VAR 4 NIL", -4, ENDED, -1);
        throwsCode(atWork + "CLOSE VAR 4 APP VAR 0 NUM 5 YIELD NIL NIL RESUME VAR 4 NIL", -4, ENDED, -1);
    }

    // "A ninth GENERATOR of a run is not made, APP throws -6."
    private static void ninthGenerator() {
        String make = "LET 0 FN 1 YIELD NIL LET 2 NUM @ SEQ WHILE SET 2 SUB VAR 2 NUM 1 APP VAR 0 NIL ";
        ScriptBench bench = Checks.gives(make.replace("@", "8") + "APP VAR 0 NIL", Checks.GENERATOR, 7);
        state("the eighth", bench, 7, NOT_BEGUN, -1);
        state("no ninth", bench, 8, -1, -1);
        bench = Checks.throwsCode(make.replace("@", "9") + "APP VAR 0 NIL", -6);
        state("the eighth of eight", bench, 7, NOT_BEGUN, -1);
        state("still no ninth", bench, 8, -1, -1);
        Checks.noted(Checks.throwsCode(make.replace("@", "9") + "APP VAR 0 HOST NUM 3", -6), 3);
        Checks.gives(make.replace("@", "9") + "APP FN 3 VAR 3 NUM 4", Checks.INT, 4);
        Checks.gives(make.replace("@", "9") + "TRY 4 APP VAR 0 NIL TRY 4 APP VAR 0 NIL VAR 4", Checks.INT, -6);
        // Of a run: the next one makes eight again.
        bench = Checks.gives(make.replace("@", "8") + "APP VAR 0 NIL", Checks.GENERATOR, 7);
        Checks.due("run again", bench.run(600), ScriptBench.VALUE);
        Checks.due("eight again", bench.number(), 7);
        // Those that have ENDED, and those that nothing names any more, count.
        Checks.throwsCode("LET 0 FN 1 YIELD NIL WHILE NUM 1 CLOSE APP VAR 0 NIL", -6);
        Checks.throwsCode("LET 0 FN 1 YIELD NIL WHILE NUM 1 LET 2 APP VAR 0 NIL SEQ RESUME VAR 2 NIL RESUME VAR 2 NIL", -6);
    }

    private static void ninthGeneratorAtEightActivations() {
        String full = "LET 3 FN 1 YIELD NIL LET 2 NUM 9 SEQ WHILE SET 2 SUB VAR 2 NUM 1 APP VAR 3 NIL ";
        Checks.throwsCode(full + DESCEND + "APP VAR 3 NIL" + DEEPEST, -6);
        Checks.throwsCode(full + DESCEND + "APP FN 4 NIL NIL" + DEEPEST, -5);
    }
}
