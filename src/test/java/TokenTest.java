/** Promises 1 (A new object), 2 (token) and 3 (wipe). */
public final class TokenTest {
    public static void main(String[] args) {
        newObject();
        kinds();
        names();
        fortyEight();
        falseChangesNothing();
        wipe();
        Checks.end();
    }

    private static void newObject() {
        ScriptBench bench = new ScriptBench();
        Checks.due("new: place", bench.place(), -1);
        for (int what = -1; what <= 4; what++) {
            Checks.due("new: info " + what, bench.info(what), -1);
        }
        Checks.due("new: run", bench.run(600), ScriptBench.BAD);
        Checks.due("new: sort", bench.sort(), -1);
        Checks.due("new: number", bench.number(), 0);
        Checks.due("new: steps", bench.steps(), 0);
        Checks.due("new: host count", bench.host(-1, 0), 0);
        Checks.due("new: host", bench.host(0, 0), -1);
        Checks.due("new: generator", bench.generator(0), -1);
        Checks.due("new: waits", bench.waits(0), -1);
        Checks.due("new: wipe", bench.wipe(), 0);
        Checks.due("new: compile", bench.compile(), ScriptBench.SHAPE);
        Checks.due("new: place of no token", bench.place(), 0);
    }

    private static void kinds() {
        int[] wrong = {-1, 27, 28, 100, Integer.MIN_VALUE, Integer.MAX_VALUE};
        ScriptBench bench = new ScriptBench();
        for (int kind : wrong) {
            Checks.due("token of kind " + kind, bench.token(kind, 0), false);
        }
        Checks.due("no token of a wrong kind", bench.wipe(), 0);
        for (int kind = 0; kind <= 26; kind++) {
            Checks.due("token of kind " + kind, bench.token(kind, 0), true);
        }
        Checks.due("27 kinds", bench.wipe(), 27);
    }

    private static void names() {
        int[] wrong = {-1, 6, 7, Integer.MIN_VALUE, Integer.MAX_VALUE};
        for (int kind = 0; kind <= 26; kind++) {
            boolean named = (kind >= 2 && kind <= 5) || kind == 20;
            ScriptBench bench = new ScriptBench();
            for (int name = 0; name <= 5; name++) {
                Checks.due("kind " + kind + " name " + name, bench.token(kind, name), true);
            }
            for (int operand : wrong) {
                Checks.due("kind " + kind + " operand " + operand, bench.token(kind, operand), !named);
            }
            Checks.due("tokens of kind " + kind, bench.wipe(), named ? 6 : 6 + wrong.length);
        }
    }

    private static void fortyEight() {
        ScriptBench bench = new ScriptBench();
        for (int i = 0; i < 47; i++) {
            Checks.due("token " + i, bench.token(26, 0), true);
        }
        Checks.due("token 47", bench.token(0, 7), true);
        Checks.due("token 48", bench.token(0, 8), false);
        Checks.due("token 48 of a wrong kind", bench.token(27, 8), false);
        Checks.due("compile 48", bench.compile(), ScriptBench.OK);
        Checks.due("run 48", bench.run(48), ScriptBench.VALUE);
        Checks.due("NOTED 48", bench.host(-1, 0), 47);
        Checks.due("wipe 48", bench.wipe(), 48);
        Checks.due("token after wipe", bench.token(0, 8), true);
    }

    private static void falseChangesNothing() {
        ScriptBench bench = Checks.withTokens("ADD NUM 2");
        Checks.due("wrong kind", bench.token(27, 0), false);
        Checks.due("wrong name", bench.token(2, 6), false);
        Checks.append(bench, "NUM 3");
        Checks.due("compile", bench.compile(), ScriptBench.OK);
        Checks.due("run", bench.run(3), ScriptBench.VALUE);
        Checks.due("number", bench.number(), 5);
    }

    private static void wipe() {
        ScriptBench bench = Checks.gives("HOST NUM 4", Checks.INT, 4);
        Checks.due("wipe", bench.wipe(), 2);
        Checks.due("wipe again", bench.wipe(), 0);
        Checks.due("the latest run stays", bench.number(), 4);
        Checks.noted(bench, 4);
        Checks.due("info of the script that stays", bench.info(0), 0);
        Checks.append(bench, "FN 0 NIL");
        Checks.due("info without compile", bench.info(0), 0);
        Checks.due("run of the script that stays", bench.run(2), ScriptBench.VALUE);
        Checks.due("its number", bench.number(), 4);
        Checks.due("compile", bench.compile(), ScriptBench.OK);
        Checks.due("info of the new script", bench.info(0), 1);
    }
}
