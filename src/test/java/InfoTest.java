/** Promise 6 (info). */
public final class InfoTest {
    public static void main(String[] args) {
        fns();
        captured();
        outside();
        others();
        Checks.end();
    }

    private static ScriptBench infos(String script, int fns, int generatorFns, int captured, int outside) {
        ScriptBench bench = Checks.compiled(script);
        Checks.due("FNs of " + script, bench.info(0), fns);
        Checks.due("GENERATOR FNs of " + script, bench.info(1), generatorFns);
        Checks.due("CAPTURED of " + script, bench.info(2), captured);
        Checks.due("OUTSIDE of " + script, bench.info(3), outside);
        return bench;
    }

    private static void fns() {
        infos("NIL", 0, 0, 0, 0);
        infos("FN 0 NIL", 1, 0, 0, 0);
        infos("FN 0 FN 1 FN 2 NIL", 3, 0, 0, 0);
        infos("FN 0 YIELD NIL", 1, 1, 0, 0);
        infos("FN 0 SEQ YIELD NIL YIELD NIL", 1, 1, 0, 0);
        infos("FN 0 FN 1 YIELD NIL", 2, 1, 0, 0);
        infos("FN 0 SEQ YIELD NIL FN 1 YIELD NIL", 2, 2, 0, 0);
        infos("SEQ FN 0 YIELD NIL FN 0 NIL", 2, 1, 0, 0);
        infos("FN 0 YIELD FN 1 NIL", 2, 1, 0, 0);
    }

    private static void captured() {
        infos("FN 0 VAR 0", 1, 0, 0, 0);
        infos("LET 0 NIL VAR 0", 0, 0, 0, 0);
        infos("LET 0 NIL FN 1 VAR 0", 1, 0, 1, 1);
        infos("LET 0 NIL FN 1 SET 0 NIL", 1, 0, 1, 1);
        infos("LET 0 NIL FN 0 VAR 0", 1, 0, 0, 0);
        infos("FN 0 LET 1 NIL ADD VAR 0 VAR 1", 1, 0, 0, 0);
        infos("FN 0 FN 1 VAR 0", 2, 0, 1, 1);
        infos("FN 0 LET 1 NIL FN 2 VAR 1", 2, 0, 1, 1);
        infos("TRY 0 NIL FN 1 VAR 0", 1, 0, 1, 1);
        infos("FN 0 TRY 1 NIL VAR 1", 1, 0, 0, 0);
        infos("LET 0 NIL LET 0 NIL FN 1 VAR 0", 1, 0, 1, 1);
        infos("LET 0 NIL LET 1 NIL FN 2 ADD VAR 0 VAR 1", 1, 0, 2, 2);
        infos("LET 0 NIL FN 1 LET 0 NIL VAR 0", 1, 0, 0, 0);
        infos("LET 0 NIL FN 1 LET 0 VAR 0 VAR 0", 1, 0, 1, 1);
    }

    private static void outside() {
        infos("LET 0 NIL FN 1 ADD VAR 0 VAR 0", 1, 0, 1, 1);
        infos("LET 0 NIL FN 1 FN 2 VAR 0", 2, 0, 1, 1);
        infos("LET 0 NIL FN 1 FN 2 ADD VAR 0 VAR 1", 2, 0, 2, 2);
        infos("LET 0 NIL FN 1 SEQ VAR 0 FN 2 VAR 1", 2, 0, 2, 1);
        infos("LET 0 NIL LET 1 NIL SEQ FN 2 VAR 0 FN 2 SEQ VAR 0 VAR 1", 2, 0, 2, 2);
        infos("FN 0 LET 1 FN 2 ADD VAR 0 VAR 2 VAR 1", 2, 0, 1, 1);
        infos("LET 0 NIL LET 1 NIL LET 2 NIL SEQ VAR 0 SEQ VAR 1 FN 3 VAR 2", 1, 0, 1, 1);
        infos("LET 0 NIL FN 1 SET 0 YIELD VAR 1", 1, 1, 1, 1);
        infos("LET 0 NIL LET 1 NIL LET 2 NIL LET 3 NIL LET 4 NIL LET 5 NIL FN 0 "
            + "SEQ VAR 0 SEQ VAR 1 SEQ VAR 2 SEQ VAR 3 SEQ VAR 4 VAR 5", 1, 0, 5, 5);
    }

    private static void others() {
        ScriptBench bench = infos("LET 0 NIL FN 1 YIELD VAR 0", 1, 1, 1, 1);
        int[] wrong = {-1, 4, 5, Integer.MIN_VALUE, Integer.MAX_VALUE};
        for (int what : wrong) {
            Checks.due("info " + what, bench.info(what), -1);
        }
        bench.run(600);
        bench.wipe();
        Checks.due("FNs stay after run and wipe", bench.info(0), 1);
        bench.compile();
        Checks.due("no script, no FNs", bench.info(0), -1);
        Checks.due("no script, no OUTSIDE", bench.info(3), -1);
    }
}
