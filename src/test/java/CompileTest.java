/** Promises 4 (compile) and 5 (place), and the order of promise 14. */
public final class CompileTest {
    public static void main(String[] args) {
        shape();
        shapeOfEachKind();
        unbound();
        outsideLoops();
        outsideYields();
        order();
        failedCompileLeavesNoScript();
        compileForgetsTheRun();
        nothingWasRun();
        nothingIsLeftOfTheOldScript();
        Checks.end();
    }

    private static void refused(String script, int how, int place) {
        ScriptBench bench = script.isEmpty() ? new ScriptBench() : Checks.withTokens(script);
        Checks.due("compile of " + script, bench.compile(), how);
        Checks.due("place of " + script, bench.place(), place);
        Checks.due("info without a script", bench.info(0), -1);
        Checks.due("run without a script", bench.run(1), ScriptBench.BAD);
    }

    private static void shape() {
        refused("", ScriptBench.SHAPE, 0);
        refused("ADD", ScriptBench.SHAPE, 1);
        refused("ADD NUM 1", ScriptBench.SHAPE, 2);
        refused("NUM 1 NUM 2", ScriptBench.SHAPE, 1);
        refused("NIL NIL NIL", ScriptBench.SHAPE, 1);
        refused("ADD NUM 1 NUM 2 NUM 3 NUM 4", ScriptBench.SHAPE, 3);
        refused("IF NIL NIL", ScriptBench.SHAPE, 3);
        refused("SEQ SEQ NIL NIL", ScriptBench.SHAPE, 4);
        refused("FN 0 ADD VAR 0", ScriptBench.SHAPE, 3);
    }

    private static void shapeOfEachKind() {
        String zero = " NUM NIL VAR BREAK NEXT ";
        String one = " SET FN RETURN THROW YIELD DONE CLOSE HOST ";
        for (int kind = 0; kind <= 26; kind++) {
            String name = " " + Checks.KINDS.get(kind) + " ";
            int operands = zero.contains(name) ? 0 : one.contains(name) ? 1 : name.equals(" IF ") ? 3 : 2;
            ScriptBench bench = new ScriptBench();
            bench.token(kind, 0);
            for (int have = 0; have < operands; have++) {
                Checks.due("compile of" + name + "with " + have, bench.compile(), ScriptBench.SHAPE);
                Checks.due("place of" + name + "with " + have, bench.place(), have + 1);
                bench.token(1, 0);
            }
            boolean whole = bench.compile() != ScriptBench.SHAPE;
            Checks.due("shape of" + name + "with " + operands, whole, true);
            bench.token(1, 0);
            Checks.due("compile of" + name + "with one more", bench.compile(), ScriptBench.SHAPE);
            Checks.due("place of" + name + "with one more", bench.place(), operands + 1);
        }
    }

    private static void unbound() {
        refused("VAR 0", ScriptBench.UNBOUND, 0);
        refused("SET 0 NIL", ScriptBench.UNBOUND, 0);
        refused("LET 0 VAR 0 NIL", ScriptBench.UNBOUND, 1);
        refused("LET 0 SET 0 NIL NIL", ScriptBench.UNBOUND, 1);
        refused("LET 0 NIL VAR 1", ScriptBench.UNBOUND, 2);
        refused("TRY 0 VAR 0 VAR 0", ScriptBench.UNBOUND, 1);
        refused("SEQ LET 0 NIL VAR 0 VAR 0", ScriptBench.UNBOUND, 4);
        refused("SEQ FN 0 VAR 0 VAR 0", ScriptBench.UNBOUND, 3);
        refused("SEQ VAR 3 VAR 4", ScriptBench.UNBOUND, 1);
        refused("APP FN 5 VAR 5 VAR 5", ScriptBench.UNBOUND, 3);
        refused("SET 0 VAR 1", ScriptBench.UNBOUND, 0);
        Checks.compiled("LET 0 NIL SET 0 VAR 0");
        Checks.compiled("TRY 0 NIL VAR 0");
        Checks.compiled("FN 0 FN 1 ADD VAR 0 VAR 1");
        Checks.compiled("LET 0 NIL LET 0 VAR 0 VAR 0");
    }

    private static void outsideLoops() {
        refused("BREAK", ScriptBench.OUTSIDE, 0);
        refused("NEXT", ScriptBench.OUTSIDE, 0);
        refused("WHILE BREAK NIL", ScriptBench.OUTSIDE, 1);
        refused("WHILE NEXT NIL", ScriptBench.OUTSIDE, 1);
        refused("WHILE SEQ BREAK NIL NIL", ScriptBench.OUTSIDE, 2);
        refused("WHILE SEQ NIL NEXT NIL", ScriptBench.OUTSIDE, 3);
        refused("SEQ WHILE NIL BREAK BREAK", ScriptBench.OUTSIDE, 4);
        refused("WHILE NIL FN 0 BREAK", ScriptBench.OUTSIDE, 3);
        refused("WHILE NIL FN 0 WHILE NEXT NIL", ScriptBench.OUTSIDE, 4);
        Checks.compiled("WHILE NIL BREAK");
        Checks.compiled("WHILE NIL NEXT");
        Checks.compiled("WHILE NIL WHILE BREAK NIL");
        Checks.compiled("FN 0 WHILE NIL SEQ BREAK NEXT");
        Checks.compiled("WHILE NIL LET 0 NEXT BREAK");
        Checks.compiled("WHILE NIL ADD NIL WHILE SEQ NIL NEXT NIL");
    }

    private static void outsideYields() {
        refused("YIELD NIL", ScriptBench.OUTSIDE, 0);
        refused("SEQ FN 0 YIELD NIL YIELD NIL", ScriptBench.OUTSIDE, 4);
        refused("SEQ YIELD NIL BREAK", ScriptBench.OUTSIDE, 1);
        refused("SEQ BREAK YIELD NIL", ScriptBench.OUTSIDE, 1);
        Checks.compiled("FN 0 YIELD NIL");
        Checks.compiled("FN 0 FN 1 YIELD YIELD NIL");
    }

    private static void order() {
        refused("SEQ BREAK VAR 0", ScriptBench.UNBOUND, 2);
        refused("SEQ YIELD NIL SET 1 NIL", ScriptBench.UNBOUND, 3);
        refused("VAR 0 BREAK", ScriptBench.SHAPE, 1);
        refused("SEQ BREAK", ScriptBench.SHAPE, 2);
        refused("SEQ VAR 0", ScriptBench.SHAPE, 2);
    }

    private static void failedCompileLeavesNoScript() {
        ScriptBench bench = Checks.gives("NUM 4", Checks.INT, 4);
        Checks.append(bench, "NUM 5");
        Checks.due("run before compile", bench.run(1), ScriptBench.VALUE);
        Checks.due("compile of two", bench.compile(), ScriptBench.SHAPE);
        Checks.due("place of two", bench.place(), 1);
        Checks.due("run of two", bench.run(1), ScriptBench.BAD);
        Checks.due("info of two", bench.info(0), -1);
        Checks.due("the tokens stay", bench.wipe(), 2);
        Checks.due("place stays after wipe", bench.place(), 1);
        Checks.append(bench, "NUM 6");
        Checks.due("place stays after token", bench.place(), 1);
        Checks.due("compile of one", bench.compile(), ScriptBench.OK);
        Checks.due("place of one", bench.place(), -1);
        Checks.due("run of one", bench.run(1), ScriptBench.VALUE);
        Checks.due("number of one", bench.number(), 6);
        Checks.due("compile again", bench.compile(), ScriptBench.OK);
        Checks.due("the tokens stay after OK", bench.wipe(), 1);
    }

    private static void compileForgetsTheRun() {
        String script = "LET 0 APP FN 1 YIELD HOST NUM 3 NIL SEQ RESUME VAR 0 NIL VAR 0";
        ScriptBench bench = Checks.gives(script, Checks.GENERATOR, 0);
        Checks.due("generator", bench.generator(0), 1);
        Checks.due("waits", bench.waits(0), 3);
        Checks.due("compile again", bench.compile(), ScriptBench.OK);
        noLatestRun(bench);
        bench.run(600);
        Checks.append(bench, "NIL");
        Checks.due("compile in vain", bench.compile(), ScriptBench.SHAPE);
        noLatestRun(bench);
    }

    private static void noLatestRun(ScriptBench bench) {
        Checks.due("no run: sort", bench.sort(), -1);
        Checks.due("no run: number", bench.number(), 0);
        Checks.due("no run: steps", bench.steps(), 0);
        Checks.due("no run: host count", bench.host(-1, 5), 0);
        Checks.due("no run: host", bench.host(0, 1), -1);
        Checks.due("no run: generator", bench.generator(0), -1);
        Checks.due("no run: waits", bench.waits(0), -1);
    }

    private static void nothingWasRun() {
        ScriptBench bench = Checks.compiled("HOST NUM 1");
        noLatestRun(bench);
    }

    private static void nothingIsLeftOfTheOldScript() {
        ScriptBench bench = Checks.gives("APP FN 0 YIELD VAR 0 NUM 4", Checks.GENERATOR, 0);
        bench.wipe();
        Checks.append(bench, "APP FN 0 HOST VAR 0 NUM 4");
        Checks.due("compile", bench.compile(), ScriptBench.OK);
        Checks.due("GENERATOR FNs", bench.info(1), 0);
        Checks.due("run", bench.run(600), ScriptBench.VALUE);
        Checks.due("sort", bench.sort(), Checks.INT);
        Checks.due("number", bench.number(), 4);
        bench.wipe();
        Checks.append(bench, "LET 0 NUM 1 LET 1 NUM 2 FN 2 ADD VAR 0 VAR 1");
        bench.compile();
        Checks.due("OUTSIDE variables", bench.info(3), 2);
        bench.wipe();
        Checks.append(bench, "FN 0 NIL");
        bench.compile();
        Checks.due("no CAPTURED", bench.info(2), 0);
        Checks.due("no OUTSIDE variables", bench.info(3), 0);
    }
}
