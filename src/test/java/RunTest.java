/** Promises 7 (run), 8 (sort), 9 (number), 10 (steps) and 11 (host). */
public final class RunTest {
    public static void main(String[] args) {
        bad();
        steps();
        everyMost();
        sixHundred();
        longLeavesAllAsItIs();
        anew();
        noted();
        onlyFortyAreKept();
        wrongHost();
        Checks.end();
    }

    private static void bad() {
        ScriptBench bench = Checks.gives("HOST NUM 4", Checks.INT, 4);
        int[] wrong = {0, -1, 601, Integer.MIN_VALUE, Integer.MAX_VALUE};
        for (int most : wrong) {
            Checks.due("run " + most, bench.run(most), ScriptBench.BAD);
            Checks.due("sort stays", bench.sort(), Checks.INT);
            Checks.due("number stays", bench.number(), 4);
            Checks.due("steps stay", bench.steps(), 2);
            Checks.noted(bench, 4);
        }
        Checks.due("run 1", bench.run(1), ScriptBench.LONG);
        Checks.due("run 600", bench.run(600), ScriptBench.VALUE);
    }

    private static void stepCount(String script, int steps) {
        ScriptBench bench = Checks.compiledAndRun(script);
        Checks.due("steps of " + script, bench.steps(), steps);
    }

    private static void steps() {
        stepCount("NIL", 1);
        stepCount("ADD NUM 1 NUM 2", 3);
        stepCount("IF NUM 1 NUM 2 ADD NUM 1 NUM 2", 3);
        stepCount("IF NUM 0 NUM 2 ADD NUM 1 NUM 2", 5);
        stepCount("FN 0 ADD NUM 1 NUM 2", 1);
        stepCount("APP FN 0 ADD NUM 1 NUM 2 NIL", 6);
        stepCount("APP FN 0 YIELD NIL NIL", 3);
        stepCount("LET 0 NUM 2 WHILE VAR 0 SET 0 SUB VAR 0 NUM 1", 14);
        stepCount("WHILE NUM 1 BREAK", 3);
        stepCount("TRY 0 NIL NIL", 2);
        stepCount("TRY 0 THROW NIL NIL", 4);
        stepCount("FINALLY THROW NIL NIL", 4);
        stepCount("SEQ THROW NIL NIL", 3);
        stepCount("LET 0 APP FN 1 SEQ YIELD NIL NIL NIL SEQ RESUME VAR 0 NIL RESUME VAR 0 NIL", 15);
        stepCount("LET 0 APP FN 1 FINALLY YIELD NIL NUM 1 NIL SEQ RESUME VAR 0 NIL CLOSE VAR 0", 14);
    }

    /** With fewer steps than the script needs the answer is LONG, with as many or more it isn't. */
    private static void everyMost() {
        String script = "TRY 0 LET 1 NUM 2 SEQ WHILE VAR 1 SET 1 SUB VAR 1 NUM 1 DIV NUM 1 VAR 1 VAR 0";
        ScriptBench bench = Checks.gives(script, Checks.INT, -1);
        int need = bench.steps();
        for (int most = 1; most < need; most++) {
            Checks.due("run " + most, bench.run(most), ScriptBench.LONG);
            Checks.due("steps of " + most, bench.steps(), most);
            Checks.due("sort of " + most, bench.sort(), -1);
            Checks.due("number of " + most, bench.number(), 0);
        }
        Checks.due("run as needed", bench.run(need), ScriptBench.VALUE);
        Checks.due("steps as needed", bench.steps(), need);
        Checks.due("run with one more", bench.run(need + 1), ScriptBench.VALUE);
        ScriptBench thrown = Checks.throwsCode("ADD NUM 1 THROW NUM 2", 2);
        Checks.due("THROWN with as many as needed", thrown.run(4), ScriptBench.THROWN);
        Checks.due("LONG with one less", thrown.run(3), ScriptBench.LONG);
    }

    private static void sixHundred() {
        ScriptBench bench = Checks.compiled("WHILE NUM 1 FN 0 NIL");
        Checks.due("run 600", bench.run(600), ScriptBench.LONG);
        Checks.due("steps 600", bench.steps(), 600);
        // Every token of these makes as many variables or FUNCTIONs as can be made.
        String[] greedy = {
            "WHILE FN 0 NIL FN 0 NIL",
            "WHILE LET 0 NUM 1 LET 0 NUM 1 LET 0 NUM 1 NUM 1 TRY 0 THROW NIL LET 0 NIL NIL",
            "LET 0 FN 1 VAR 1 WHILE APP VAR 0 NUM 1 APP VAR 0 NUM 1",
        };
        for (String script : greedy) {
            bench = Checks.compiled(script);
            for (int most = 3; most <= 600; most += 3) {
                Checks.due("run " + most + " of " + script, bench.run(most), ScriptBench.LONG);
            }
        }
    }

    private static void longLeavesAllAsItIs() {
        String script = "LET 0 APP FN 1 SEQ HOST YIELD NUM 1 NUM 2 NIL SEQ RESUME VAR 0 NIL SEQ RESUME VAR 0 NUM 5 NUM 6";
        ScriptBench bench = Checks.gives(script, Checks.INT, 6);
        // The generator's state after so many steps, which are
        // LET APP FN NIL | SEQ RESUME VAR NIL | SEQ HOST YIELD NUM | SEQ RESUME VAR NUM | NUM | NUM.
        int[] states = {-1, -1, -1, -1, 0, 0, 0, 0, 2, 2, 2, 2, 1, 1, 1, 1, 2, 3};
        Checks.due("steps in all", bench.steps(), 18);
        for (int most = 1; most <= 17; most++) {
            Checks.due("run " + most, bench.run(most), ScriptBench.LONG);
            int state = states[most];
            Checks.due("generator at " + most, bench.generator(0), state);
            Checks.due("waits at " + most, bench.waits(0), state == 1 ? 5 : -1);
            Checks.due("NOTED at " + most, bench.host(-1, 0), most < 16 ? 0 : 1);
        }
    }

    private static void anew() {
        ScriptBench bench = Checks.gives("LET 0 NUM 1 SEQ HOST APP FN 1 YIELD NIL NIL SET 0 ADD VAR 0 NUM 1", Checks.INT, 2);
        Checks.due("run again", bench.run(600), ScriptBench.VALUE);
        Checks.due("number again", bench.number(), 2);
        Checks.due("NOTED again", bench.host(-1, 0), 1);
        Checks.due("GENERATOR NOTED again", bench.host(0, 1), 0);
        Checks.due("one generator", bench.generator(0), 0);
        Checks.due("no second generator", bench.generator(1), -1);
        Checks.due("run a little", bench.run(2), ScriptBench.LONG);
        Checks.due("NOTED in a little", bench.host(-1, 0), 0);
        Checks.due("no generator in a little", bench.generator(0), -1);
    }

    private static void noted() {
        ScriptBench bench = Checks.gives("SEQ HOST NIL SEQ HOST NUM 7 SEQ HOST ADD NUM 2147483647 NUM 1 "
            + "SEQ HOST FN 0 NIL HOST APP FN 0 YIELD NIL NIL", Checks.GENERATOR, 0);
        long[] sorts = {0, 1, 2, 3, 4};
        long[] numbers = {0, 7, 2147483648L, 13, 0};
        Checks.due("how many", bench.host(-1, 0), 5);
        for (int k = 0; k < 5; k++) {
            Checks.due("sort " + k, bench.host(k, 0), sorts[k]);
            Checks.due("number " + k, bench.host(k, 1), numbers[k]);
        }
        Checks.noted(Checks.throwsCode("HOST NUM -7", -7), -7);
        Checks.noted(Checks.gives("TRY 0 HOST NUM -7 VAR 0", Checks.INT, -7), -7);
        bench = Checks.gives("HOST SUB NUM -2147483648 NUM 1", Checks.LONG, -2147483649L);
        Checks.due("a LONG below 0", bench.host(0, 1), -2147483649L);
        Checks.noted(Checks.gives("HOST HOST NUM 3", Checks.INT, 3), 3, 3);
        Checks.noted(Checks.throwsCode("HOST THROW NUM 3", 3));
    }

    private static void onlyFortyAreKept() {
        ScriptBench bench = Checks.gives("LET 0 NUM 50 WHILE VAR 0 SEQ HOST VAR 0 SET 0 SUB VAR 0 NUM 1", Checks.NIL, 0);
        Checks.due("how many of 50", bench.host(-1, 0), 50);
        for (int k = 0; k < 40; k++) {
            Checks.due("sort of " + k, bench.host(k, 0), Checks.INT);
            Checks.due("number of " + k, bench.host(k, 1), 50 - k);
        }
        for (int k = 40; k < 52; k++) {
            Checks.due("sort of " + k, bench.host(k, 0), -1);
            Checks.due("number of " + k, bench.host(k, 1), -1);
        }
    }

    private static void wrongHost() {
        ScriptBench bench = Checks.gives("HOST NUM 9", Checks.INT, 9);
        int[] wrong = {-1, 2, 3, Integer.MIN_VALUE, Integer.MAX_VALUE};
        for (int what : wrong) {
            Checks.due("host 0, " + what, bench.host(0, what), -1);
            Checks.due("host -1, " + what, bench.host(-1, what), 1);
        }
        int[] none = {-2, 1, 39, 40, Integer.MIN_VALUE, Integer.MAX_VALUE};
        for (int k : none) {
            Checks.due("host " + k + ", 0", bench.host(k, 0), -1);
            Checks.due("host " + k + ", 1", bench.host(k, 1), -1);
        }
    }
}
