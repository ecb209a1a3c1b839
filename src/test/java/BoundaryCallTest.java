/** The boundary cases of the promises 1 to 14: each method tests the sentence that stands above it. */
public final class BoundaryCallTest {
    private static final int[] FAR = {Integer.MIN_VALUE, Integer.MIN_VALUE + 1, -1000, 1000, Integer.MAX_VALUE - 1, Integer.MAX_VALUE};

    public static void main(String[] args) {
        newObject();
        tokenKinds();
        tokenNames();
        tokenOperandsNotLookedAt();
        fortyEightTokens();
        wipeEmptyAndFull();
        wipeLeavesTheRest();
        shapeEmptyAndFull();
        shapeFirst();
        unboundFirst();
        outsideLoops();
        outsideYields();
        refusedLeavesNoScript();
        tokensStayAfterCompile();
        place();
        info();
        infoOfTheLatestScript();
        generatorFns();
        captured();
        outsideVariables();
        most();
        exactlySixHundred();
        longStays();
        badChangesNothing();
        sortAndNumber();
        steps();
        hostForty();
        hostOthers();
        generators();
        compileForgetsTheRun();
        order();
        Checks.end();
    }

    private static void noScript(String when, ScriptBench bench) {
        for (int what = -1; what <= 4; what++) {
            Checks.due(when + ": info " + what, bench.info(what), -1);
        }
        Checks.due(when + ": run 1", bench.run(1), ScriptBench.BAD);
        Checks.due(when + ": run 600", bench.run(600), ScriptBench.BAD);
    }

    // "With no latest run steps answers 0 and host with k = -1 answers 0."
    private static void noRun(String when, ScriptBench bench) {
        Checks.due(when + ": sort", bench.sort(), -1);
        Checks.due(when + ": number", bench.number(), 0);
        Checks.due(when + ": steps", bench.steps(), 0);
        for (int what = -1; what <= 2; what++) {
            Checks.due(when + ": host -1, " + what, bench.host(-1, what), 0);
            Checks.due(when + ": host 0, " + what, bench.host(0, what), -1);
        }
        for (int g = -1; g <= 8; g++) {
            Checks.due(when + ": generator " + g, bench.generator(g), -1);
            Checks.due(when + ": waits " + g, bench.waits(g), -1);
        }
    }

    // Promise 1: "No tokens, no script."
    private static void newObject() {
        ScriptBench bench = new ScriptBench();
        noScript("new", bench);
        noRun("new", bench);
        Checks.due("new: place", bench.place(), -1);
        Checks.due("new: wipe", bench.wipe(), 0);
        // Two objects have nothing in common.
        ScriptBench other = Checks.gives("HOST NUM 4", Checks.INT, 4);
        noScript("beside another", bench);
        noRun("beside another", bench);
        Checks.due("the other's number", other.number(), 4);
    }

    // Promise 2: "False, and nothing changes, if kind is not 0..26"
    private static void tokenKinds() {
        ScriptBench bench = new ScriptBench();
        Checks.due("kind -1", bench.token(-1, 0), false);
        Checks.due("kind 0", bench.token(0, 0), true);
        Checks.due("kind 26", bench.token(26, 0), true);
        Checks.due("kind 27", bench.token(27, 0), false);
        for (int kind : FAR) {
            Checks.due("kind " + kind, bench.token(kind, 0), false);
        }
        Checks.due("two tokens", bench.wipe(), 2);
    }

    // "a NAME (2 to 5, 20) not 0..5"
    private static void tokenNames() {
        for (int kind = 0; kind <= 26; kind++) {
            boolean named = (kind >= 2 && kind <= 5) || kind == 20;
            ScriptBench bench = new ScriptBench();
            Checks.due("kind " + kind + ", -1", bench.token(kind, -1), !named);
            Checks.due("kind " + kind + ", 0", bench.token(kind, 0), true);
            Checks.due("kind " + kind + ", 5", bench.token(kind, 5), true);
            Checks.due("kind " + kind + ", 6", bench.token(kind, 6), !named);
            for (int operand : FAR) {
                Checks.due("kind " + kind + ", " + operand, bench.token(kind, operand), !named);
            }
            Checks.due("tokens of kind " + kind, bench.wipe(), named ? 2 : 4 + FAR.length);
        }
    }

    // "(The operand of others is not looked at, but for NUM.)"
    private static void tokenOperandsNotLookedAt() {
        int[] others = {0, 3, 6, -1, Integer.MAX_VALUE, Integer.MIN_VALUE};
        for (int other : others) {
            ScriptBench bench = new ScriptBench();
            int[][] script = {{20, 1}, {15, other}, {26, other}, {1, other}, {14, other}, {0, 1}, {15, other}, {26, other}, {7, other},
                {0, 2}, {0, 3}, {19, other}, {6, other}, {5, 0}, {22, other}, {1, other}, {1, other}, {23, other}, {2, 1}, {1, other}};
            for (int[] token : script) {
                bench.token(token[0], token[1]);
            }
            Checks.due("compile with operand " + other, bench.compile(), ScriptBench.OK);
            Checks.due("run with operand " + other, bench.run(600), ScriptBench.VALUE);
            Checks.due("sort with operand " + other, bench.sort(), Checks.NIL);
            Checks.due("steps with operand " + other, bench.steps(), 20);
            Checks.due("NOTED with operand " + other, bench.host(1, 1), 5);
            Checks.due("waits with operand " + other, bench.waits(0), 14);
        }
    }

    // "or there are 48"
    private static void fortyEightTokens() {
        ScriptBench bench = new ScriptBench();
        for (int n = 0; n < 47; n++) {
            Checks.due("token " + n, bench.token(26, 0), true);
        }
        Checks.due("compile of 47", bench.compile(), ScriptBench.SHAPE);
        Checks.due("place of 47", bench.place(), 47);
        Checks.due("the 48th", bench.token(0, 7), true);
        for (int kind = -1; kind <= 27; kind++) {
            Checks.due("the 49th, of kind " + kind, bench.token(kind, 0), false);
        }
        Checks.due("compile of 48", bench.compile(), ScriptBench.OK);
        Checks.due("run of 48", bench.run(48), ScriptBench.VALUE);
        Checks.due("number of 48", bench.number(), 7);
        Checks.due("wipe of 48", bench.wipe(), 48);
        Checks.due("after wipe there is room", bench.token(0, 8), true);
    }

    // Promise 3: "Removes all tokens: how many."
    private static void wipeEmptyAndFull() {
        ScriptBench bench = new ScriptBench();
        int[] counts = {0, 1, 47, 48, 0, 48, 2};
        for (int count : counts) {
            for (int n = 0; n < count; n++) {
                Checks.due("token " + n, bench.token(1, 0), true);
            }
            Checks.due("wipe of " + count, bench.wipe(), count);
            Checks.due("wipe again", bench.wipe(), 0);
        }
        Checks.due("compile of none", bench.compile(), ScriptBench.SHAPE);
        Checks.due("place of none", bench.place(), 0);
    }

    // "The script stays."
    private static void wipeLeavesTheRest() {
        ScriptBench bench = Checks.gives("LET 0 NUM 4 HOST APP FN 1 YIELD VAR 0 NIL", Checks.GENERATOR, 0);
        Checks.due("wipe", bench.wipe(), 8);
        Checks.due("place", bench.place(), -1);
        Checks.due("FNs", bench.info(0), 1);
        Checks.due("GENERATOR FNs", bench.info(1), 1);
        Checks.due("CAPTURED", bench.info(2), 1);
        Checks.due("OUTSIDE", bench.info(3), 1);
        Checks.due("sort", bench.sort(), Checks.GENERATOR);
        Checks.due("steps", bench.steps(), 6);
        Checks.due("NOTED", bench.host(0, 0), Checks.GENERATOR);
        Checks.due("generator", bench.generator(0), 0);
        // Other tokens are not the script before they are compiled.
        Checks.append(bench, "THROW NUM 9");
        Checks.due("run of the old script", bench.run(6), ScriptBench.VALUE);
        Checks.due("sort of the old script", bench.sort(), Checks.GENERATOR);
        Checks.due("compile", bench.compile(), ScriptBench.OK);
        Checks.due("run of the new script", bench.run(6), ScriptBench.THROWN);
    }

    private static ScriptBench refused(String script, int how, int place) {
        ScriptBench bench = Checks.withTokens(script);
        Checks.due("compile of " + script, bench.compile(), how);
        Checks.due("place of " + script, bench.place(), place);
        noScript(script, bench);
        return bench;
    }

    // Promise 4: "SHAPE: ... or their number if some are missing"
    private static void shapeEmptyAndFull() {
        ScriptBench bench = new ScriptBench();
        Checks.due("compile of none", bench.compile(), ScriptBench.SHAPE);
        Checks.due("place of none", bench.place(), 0);
        for (int n = 1; n <= 48; n++) {
            bench.token(13, 0);
            Checks.due("compile of " + n + " IFs", bench.compile(), ScriptBench.SHAPE);
            Checks.due("place of " + n + " IFs", bench.place(), n);
        }
    }

    // "SHAPE: the first token with which no expression goes on"
    private static void shapeFirst() {
        refused("NIL NIL", ScriptBench.SHAPE, 1);
        refused("NUM 1 ADD", ScriptBench.SHAPE, 1);
        refused("IF NIL NIL NIL NIL NIL", ScriptBench.SHAPE, 4);
        refused("FN 0 VAR 0 VAR 0", ScriptBench.SHAPE, 2);
        ScriptBench bench = new ScriptBench();
        for (int n = 0; n < 46; n++) {
            bench.token(26, 0);
        }
        bench.token(1, 0);
        bench.token(1, 0);
        Checks.due("compile with one too many at the end", bench.compile(), ScriptBench.SHAPE);
        Checks.due("its place", bench.place(), 47);
    }

    // "UNBOUND: the first VAR or SET that means no variable"
    private static void unboundFirst() {
        refused("VAR 5", ScriptBench.UNBOUND, 0);
        refused("SET 5 NIL", ScriptBench.UNBOUND, 0);
        refused("SET 0 SET 1 VAR 2", ScriptBench.UNBOUND, 0);
        refused("LET 0 NIL SEQ VAR 0 SEQ SET 1 NIL VAR 2", ScriptBench.UNBOUND, 5);
        refused("LET 0 NIL SET 0 VAR 1", ScriptBench.UNBOUND, 3);
        refused("LET 0 VAR 0 VAR 0", ScriptBench.UNBOUND, 1);
        refused("TRY 0 SET 0 NIL VAR 0", ScriptBench.UNBOUND, 1);
        refused("APP FN 0 VAR 0 VAR 0", ScriptBench.UNBOUND, 3);
        refused("SEQ LET 0 NIL NIL VAR 0", ScriptBench.UNBOUND, 4);
        refused("SEQ TRY 0 NIL NIL VAR 0", ScriptBench.UNBOUND, 4);
        // Each name is told from each other.
        for (int bound = 0; bound <= 5; bound++) {
            for (int meant = 0; meant <= 5; meant++) {
                String script = "LET " + bound + " NIL VAR " + meant;
                if (bound == meant) {
                    Checks.compiled(script);
                } else {
                    refused(script, ScriptBench.UNBOUND, 2);
                }
            }
        }
    }

    // "OUTSIDE: the first BREAK or NEXT that stands in the F of no WHILE with the same own FN"
    private static void outsideLoops() {
        String[] places = {"@", "LET 0 @ NIL", "LET 0 NIL @", "FN 0 @", "APP @ NIL", "APP NIL @", "ADD @ NIL", "ADD NIL @",
            "SUB NIL @", "MUL NIL @", "DIV NIL @", "LESS NIL @", "SAME NIL @", "IF @ NIL NIL", "IF NIL @ NIL", "IF NIL NIL @",
            "WHILE @ NIL", "SEQ @ NIL", "SEQ NIL @", "RETURN @", "THROW @", "TRY 0 @ NIL", "TRY 0 NIL @", "FINALLY @ NIL",
            "FINALLY NIL @", "FN 0 YIELD @", "RESUME @ NIL", "RESUME NIL @", "DONE @", "CLOSE @", "HOST @", "LET 0 NIL SET 0 @"};
        String[] leaving = {"BREAK", "NEXT"};
        for (String place : places) {
            String before = place.substring(0, place.indexOf('@'));
            int at = tokensIn(before);
            for (String leave : leaving) {
                refused(place.replace("@", leave), ScriptBench.OUTSIDE, at);
                String inLoop = "WHILE NIL " + place.replace("@", leave);
                if (before.contains("FN")) {
                    refused(inLoop, ScriptBench.OUTSIDE, at + 2);
                } else {
                    Checks.compiled(inLoop);
                }
            }
        }
        refused("WHILE NIL SEQ BREAK FN 0 SEQ NEXT BREAK", ScriptBench.OUTSIDE, 6);
        refused("SEQ WHILE NIL NEXT BREAK", ScriptBench.OUTSIDE, 4);
        refused("WHILE NIL FN 0 WHILE NEXT BREAK", ScriptBench.OUTSIDE, 4);
        Checks.compiled("WHILE NIL FN 0 WHILE NIL SEQ NEXT BREAK");
        Checks.compiled("WHILE NIL WHILE WHILE BREAK NIL NEXT");
    }

    private static int tokensIn(String words) {
        int count = 0;
        for (String word : words.trim().split(" ")) {
            count += Checks.KINDS.contains(word) ? 1 : 0;
        }
        return count;
    }

    // "or YIELD without an FN"
    private static void outsideYields() {
        refused("YIELD NIL", ScriptBench.OUTSIDE, 0);
        refused("APP FN 0 NIL YIELD NIL", ScriptBench.OUTSIDE, 3);
        refused("WHILE NIL YIELD NIL", ScriptBench.OUTSIDE, 2);
        refused("SEQ FN 0 YIELD NIL SEQ YIELD NIL BREAK", ScriptBench.OUTSIDE, 5);
        refused("SEQ FN 0 YIELD NIL SEQ BREAK YIELD NIL", ScriptBench.OUTSIDE, 5);
        refused("YIELD YIELD NIL", ScriptBench.OUTSIDE, 0);
        Checks.compiled("FN 0 YIELD YIELD NIL");
    }

    // "If one of these is answered there is no script."
    private static void refusedLeavesNoScript() {
        String[] wrong = {"NIL NIL", "ADD NIL", "VAR 0", "BREAK", "YIELD NIL"};
        int[] answers = {ScriptBench.SHAPE, ScriptBench.SHAPE, ScriptBench.UNBOUND, ScriptBench.OUTSIDE, ScriptBench.OUTSIDE};
        for (int n = 0; n < wrong.length; n++) {
            ScriptBench bench = Checks.gives("APP FN 0 HOST VAR 0 NUM 4", Checks.INT, 4);
            bench.wipe();
            Checks.append(bench, wrong[n]);
            Checks.due("compile of " + wrong[n], bench.compile(), answers[n]);
            noScript(wrong[n], bench);
            noRun(wrong[n], bench);
            bench.wipe();
            noScript(wrong[n] + ", wiped", bench);
            Checks.append(bench, "NUM 6");
            noScript(wrong[n] + ", before the next compile", bench);
            Checks.due("compile after " + wrong[n], bench.compile(), ScriptBench.OK);
            Checks.due("run after " + wrong[n], bench.run(1), ScriptBench.VALUE);
            Checks.due("number after " + wrong[n], bench.number(), 6);
        }
    }

    // "Makes the tokens the script (they stay)."; "Nothing was run then."
    private static void tokensStayAfterCompile() {
        ScriptBench bench = Checks.compiled("HOST NUM 4");
        noRun("compiled", bench);
        Checks.due("compile again", bench.compile(), ScriptBench.OK);
        Checks.append(bench, "NIL");
        Checks.due("compile with one more", bench.compile(), ScriptBench.SHAPE);
        Checks.due("compile with one more again", bench.compile(), ScriptBench.SHAPE);
        Checks.due("place of one more", bench.place(), 2);
        Checks.due("all three stay", bench.wipe(), 3);
    }

    // Promise 5: "-1 if that was OK or there was none"
    private static void place() {
        ScriptBench bench = new ScriptBench();
        Checks.due("none", bench.place(), -1);
        Checks.append(bench, "SEQ NIL VAR 0");
        Checks.due("tokens, but no compile", bench.place(), -1);
        bench.compile();
        Checks.due("UNBOUND", bench.place(), 2);
        bench.token(1, 0);
        bench.token(27, 0);
        bench.run(1);
        Checks.due("it stays", bench.place(), 2);
        bench.compile();
        Checks.due("SHAPE", bench.place(), 3);
        bench.wipe();
        Checks.due("it stays after wipe", bench.place(), 3);
        Checks.append(bench, "NIL");
        bench.compile();
        Checks.due("OK", bench.place(), -1);
        bench.run(1);
        Checks.due("OK, and run", bench.place(), -1);
    }

    // Promise 6: "-1 for others, or without a script"; Promise 14: "info 3 is 0 if there is no FN"
    private static void info() {
        ScriptBench bench = new ScriptBench();
        Checks.append(bench, "LET 0 NIL FN 1 YIELD VAR 0");
        noScript("tokens, but no compile", bench);
        bench.compile();
        for (int what = 0; what <= 3; what++) {
            Checks.due("info " + what, bench.info(what), 1);
        }
        Checks.due("info -1", bench.info(-1), -1);
        Checks.due("info 4", bench.info(4), -1);
        for (int what : FAR) {
            Checks.due("info " + what, bench.info(what), -1);
        }
        infos("NIL", 0, 0, 0, 0);
        infos("LET 0 NIL LET 1 VAR 0 SET 0 VAR 1", 0, 0, 0, 0);
        infos("FN 0 NIL", 1, 0, 0, 0);
        // As many FNs as there is room for.
        ScriptBench deep = new ScriptBench();
        for (int n = 0; n < 47; n++) {
            deep.token(5, n % 6);
        }
        deep.token(2, 0);
        Checks.due("compile of 47 FNs", deep.compile(), ScriptBench.OK);
        Checks.due("47 FNs", deep.info(0), 47);
        Checks.due("no GENERATOR FN", deep.info(1), 0);
        Checks.due("one CAPTURED", deep.info(2), 1);
        Checks.due("one OUTSIDE", deep.info(3), 1);
    }

    // "Of the script": nothing of a longer script before it
    private static void infoOfTheLatestScript() {
        ScriptBench bench = Checks.compiled("SEQ NIL LET 0 NIL FN 1 YIELD VAR 0");
        bench.wipe();
        String[] shorter = {"HOST HOST HOST HOST NIL", "HOST HOST HOST NIL", "HOST HOST NIL", "HOST NIL", "NIL"};
        for (String script : shorter) {
            Checks.append(bench, script);
            Checks.due("compile of " + script, bench.compile(), ScriptBench.OK);
            for (int what = 0; what <= 3; what++) {
                Checks.due("info " + what + " of " + script, bench.info(what), 0);
            }
            bench.wipe();
        }
    }

    private static void infos(String script, int fns, int generatorFns, int captured, int outside) {
        ScriptBench bench = Checks.compiled(script);
        Checks.due("FNs of " + script, bench.info(0), fns);
        Checks.due("GENERATOR FNs of " + script, bench.info(1), generatorFns);
        Checks.due("CAPTURED of " + script, bench.info(2), captured);
        Checks.due("OUTSIDE of " + script, bench.info(3), outside);
    }

    // "An FN is a GENERATOR FN if it is the own FN of some YIELD."
    private static void generatorFns() {
        infos("FN 0 FN 1 YIELD NIL", 2, 1, 0, 0);
        infos("FN 0 SEQ FN 1 NIL YIELD NIL", 2, 1, 0, 0);
        infos("FN 0 SEQ YIELD FN 1 YIELD NIL YIELD NIL", 2, 2, 0, 0);
        infos("FN 0 WHILE YIELD NIL TRY 1 YIELD NIL YIELD NIL", 1, 1, 0, 0);
        infos("FN 0 IF NIL NIL FINALLY NIL YIELD NIL", 1, 1, 0, 0);
        infos("SEQ FN 0 NIL APP FN 0 NIL FN 0 YIELD NIL", 3, 1, 0, 0);
        // Which of them is one, a run shows: only APP of that one makes a generator.
        Checks.gives("APP FN 0 SEQ FN 1 YIELD NIL NUM 3 NIL", Checks.INT, 3);
        Checks.gives("APP APP FN 0 FN 1 YIELD NIL NIL NIL", Checks.GENERATOR, 0);
        Checks.gives("APP FN 0 IF NIL YIELD NIL NUM 3 NIL", Checks.GENERATOR, 0);
    }

    // "A variable is CAPTURED if a VAR or SET that means it has another own FN than the HOME of its binder."
    private static void captured() {
        String[] binders = {"LET 0 NIL ", "TRY 0 NIL ", "FN 0 "};
        String[] uses = {"VAR 0", "SET 0 NIL"};
        for (String binder : binders) {
            int fn = binder.startsWith("FN") ? 1 : 0;
            for (String use : uses) {
                infos(binder + use, fn, 0, 0, 0);
                infos(binder + "FN 1 " + use, fn + 1, 0, 1, 1);
                infos(binder + "FN 1 FN 2 " + use, fn + 2, 0, 1, 1);
                infos(binder + "SEQ " + use + " FN 1 " + use, fn + 1, 0, 1, 1);
                infos(binder + "FN 0 " + use, fn + 1, 0, 0, 0);
                infos(binder + "FN 1 LET 0 NIL " + use, fn + 1, 0, 0, 0);
                infos(binder + "FN 1 LET 0 " + use + " NIL", fn + 1, 0, 1, 1);
                infos("FN 3 " + binder + use, fn + 1, 0, 0, 0);
                infos("FN 3 " + binder + "FN 1 " + use, fn + 2, 0, 1, 1);
            }
        }
        // Each binder counts once, however often it is meant, and each for itself.
        infos("LET 0 NIL SEQ FN 1 VAR 0 SEQ FN 1 VAR 0 FN 1 SET 0 VAR 0", 3, 0, 1, 1);
        infos("SEQ LET 0 NIL FN 1 VAR 0 LET 0 NIL FN 1 VAR 0", 2, 0, 2, 1);
    }

    // "OUTSIDE variables of an FN: those that some VAR or SET in its body means, but whose binder is neither this FN
    // nor in its body."; "3: the most OUTSIDE variables of an FN"
    private static void outsideVariables() {
        String six = "LET 0 NIL LET 1 NIL LET 2 NIL LET 3 NIL LET 4 NIL LET 5 NIL ";
        String all = "SEQ VAR 0 SEQ VAR 1 SEQ VAR 2 SEQ VAR 3 SEQ VAR 4 VAR 5";
        // An FN binds one of the six names itself, so five are the most.
        infos(six + "FN 0 " + all, 1, 0, 5, 5);
        infos("FN 0 LET 1 NIL LET 2 NIL LET 3 NIL LET 4 NIL FN 5 FN 5 " + all, 3, 0, 5, 5);
        infos(six + all, 0, 0, 0, 0);
        infos(six + "FN 0 NIL", 1, 0, 0, 0);
        infos("LET 5 NIL FN 0 SEQ VAR 5 LET 5 NIL FN 1 VAR 5", 2, 0, 2, 1);
        // Two variables of one name are two.
        infos("LET 0 NIL FN 1 SEQ VAR 0 LET 2 FN 0 VAR 0 LET 0 NIL FN 3 VAR 0", 3, 0, 2, 1);
        infos("LET 0 NIL FN 1 LET 0 VAR 0 FN 2 SEQ VAR 0 VAR 1", 2, 0, 3, 2);
        // The most, not the last or the first, and not their sum.
        infos("LET 0 NIL LET 1 NIL SEQ FN 2 VAR 0 SEQ FN 2 SEQ VAR 0 VAR 1 FN 2 VAR 1", 3, 0, 2, 2);
        // What stands behind an FN is not in its body.
        infos("LET 0 NIL LET 1 NIL SEQ FN 2 VAR 0 VAR 1", 1, 0, 1, 1);
        infos("LET 0 NIL APP FN 2 NIL VAR 0", 1, 0, 0, 0);
    }

    // Promise 7: "BAD ... if there is no script or most is not 1..600"
    private static void most() {
        ScriptBench bench = Checks.compiled("NUM 4");
        Checks.due("run 0", bench.run(0), ScriptBench.BAD);
        Checks.due("run -1", bench.run(-1), ScriptBench.BAD);
        Checks.due("run 601", bench.run(601), ScriptBench.BAD);
        for (int far : FAR) {
            Checks.due("run " + far, bench.run(far), ScriptBench.BAD);
        }
        noRun("only BAD", bench);
        Checks.due("run 1", bench.run(1), ScriptBench.VALUE);
        Checks.due("run 600", bench.run(600), ScriptBench.VALUE);
    }

    // "LONG if most STEPS were taken and another token would begin"
    private static void exactlySixHundred() {
        // Each round takes five steps, and the last E four.
        String loop = "LET 0 NUM 119 WHILE SET 0 SUB VAR 0 NUM 1 NIL";
        ScriptBench bench = Checks.gives("HOST HOST HOST " + loop, Checks.NIL, 0);
        Checks.due("600 steps", bench.steps(), 600);
        Checks.due("run 599", bench.run(599), ScriptBench.LONG);
        Checks.due("steps of 599", bench.steps(), 599);
        Checks.due("NOTED of 599", bench.host(-1, 0), 0);
        Checks.due("run 600", bench.run(600), ScriptBench.VALUE);
        Checks.due("NOTED of 600", bench.host(-1, 0), 3);
        bench = Checks.compiled("HOST HOST HOST HOST " + loop);
        Checks.due("run with one step too many", bench.run(600), ScriptBench.LONG);
        Checks.due("its steps", bench.steps(), 600);
        bench = Checks.throwsCode("THROW HOST NUM 4", 4);
        Checks.due("THROWN with as many as needed", bench.run(3), ScriptBench.THROWN);
        Checks.due("LONG with one less", bench.run(2), ScriptBench.LONG);
        Checks.due("LONG with two less", bench.run(1), ScriptBench.LONG);
    }

    // "all stays as it is then"
    private static void longStays() {
        String script = "LET 0 APP FN 1 SEQ YIELD HOST NUM 2 FINALLY YIELD NIL HOST NUM 3 NIL SEQ RESUME VAR 0 NIL SEQ RESUME VAR 0 NIL "
            + "CLOSE VAR 0";
        ScriptBench bench = Checks.gives(script, Checks.NIL, 0);
        // LET APP FN NIL | SEQ RESUME VAR NIL | SEQ YIELD HOST NUM | SEQ RESUME VAR NIL | FINALLY YIELD NIL | CLOSE VAR |
        // HOST NUM
        int[] states = {-1, -1, -1, -1, 0, 0, 0, 0, 2, 2, 2, 2, 1, 1, 1, 1, 2, 2, 2, 1, 1, 2, 2, 3};
        int[] places = {4, 8};
        Checks.due("steps in all", bench.steps(), 23);
        for (int most = 1; most < 23; most++) {
            Checks.due("run " + most, bench.run(most), ScriptBench.LONG);
            Checks.due("steps of " + most, bench.steps(), most);
            Checks.due("sort of " + most, bench.sort(), -1);
            Checks.due("number of " + most, bench.number(), 0);
            Checks.due("generator of " + most, bench.generator(0), states[most]);
            Checks.due("waits of " + most, bench.waits(0), states[most] == 1 ? places[most < 19 ? 0 : 1] : -1);
            Checks.due("NOTED of " + most, bench.host(-1, 0), most < 12 ? 0 : 1);
        }
    }

    // "BAD, and nothing changes"
    private static void badChangesNothing() {
        String script = "LET 0 APP FN 1 SEQ YIELD HOST NUM 2 NIL NIL SEQ RESUME VAR 0 NIL HOST NUM 3";
        ScriptBench bench = Checks.gives(script, Checks.INT, 3);
        int[] bad = {0, 601, -1};
        for (int most : bad) {
            Checks.due("run " + most, bench.run(most), ScriptBench.BAD);
            Checks.due("sort stays", bench.sort(), Checks.INT);
            Checks.due("number stays", bench.number(), 3);
            Checks.due("steps stay", bench.steps(), 14);
            Checks.noted(bench, 2, 3);
            Checks.due("generator stays", bench.generator(0), 1);
            Checks.due("waits stays", bench.waits(0), 4);
        }
        Checks.due("LONG", bench.run(13), ScriptBench.LONG);
        for (int most : bad) {
            Checks.due("run " + most + " after LONG", bench.run(most), ScriptBench.BAD);
            Checks.due("sort stays -1", bench.sort(), -1);
            Checks.due("steps stay 13", bench.steps(), 13);
            Checks.noted(bench, 2);
            Checks.due("generator stays after LONG", bench.generator(0), 1);
        }
        Checks.due("info stays", bench.info(0), 1);
        Checks.due("place stays", bench.place(), -1);
        Checks.due("the tokens stay", bench.wipe(), 15);
    }

    // Promises 8 and 9: "-1 if it was LONG or there was none"; "0 for NIL or none"
    private static void sortAndNumber() {
        ScriptBench bench = Checks.gives("SEQ HOST NUM 1 FN 0 NIL", Checks.FUNCTION, 3);
        Checks.due("LONG", bench.run(3), ScriptBench.LONG);
        Checks.due("sort of LONG", bench.sort(), -1);
        Checks.due("number of LONG", bench.number(), 0);
        Checks.due("VALUE", bench.run(4), ScriptBench.VALUE);
        Checks.due("sort of VALUE", bench.sort(), Checks.FUNCTION);
        Checks.due("number of VALUE", bench.number(), 3);
        bench.compile();
        noRun("compiled after a FUNCTION", bench);
        String[] numbers = {"NUM 7", "NUM -1", "MUL NUM 65536 NUM 65536", "SEQ APP FN 0 YIELD NIL NIL APP FN 0 YIELD NIL NIL"};
        for (String number : numbers) {
            bench = Checks.compiledAndRun(number);
            bench.compile();
            noRun("compiled after " + number, bench);
            bench = Checks.compiledAndRun("THROW " + number);
            bench.compile();
            noRun("compiled after THROW " + number, bench);
        }
        Checks.gives("SEQ NUM 7 NIL", Checks.NIL, 0);
        Checks.throwsIt("SEQ NUM 7 THROW NIL", Checks.NIL, 0);
        Checks.gives("SEQ NUM 7 WHILE NUM 1 BREAK", Checks.NIL, 0);
        Checks.gives("LET 0 NUM 0 FN 1 VAR 0", Checks.FUNCTION, 2);
        // "0 the first one made": not the first one begun.
        Checks.gives("LET 0 FN 1 YIELD NIL LET 2 APP VAR 0 NIL LET 3 APP VAR 0 NIL SEQ RESUME VAR 3 NIL VAR 3", Checks.GENERATOR, 1);
    }

    // Promise 10, and "LONG if most STEPS were taken"
    private static void steps() {
        ScriptBench bench = Checks.compiled("SEQ NIL WHILE NUM 1 NIL");
        int[] mosts = {1, 2, 3, 4, 5, 599, 600};
        for (int most : mosts) {
            Checks.due("run " + most, bench.run(most), ScriptBench.LONG);
            Checks.due("steps of " + most, bench.steps(), most);
        }
        bench = Checks.gives("NIL", Checks.NIL, 0);
        Checks.due("one step", bench.steps(), 1);
        Checks.due("two steps", Checks.throwsCode("THROW NUM 1", 1).steps(), 2);
    }

    // Promise 11: "k-th (0 first; the first 40 are kept)"
    private static void hostForty() {
        int[] counts = {1, 39, 40, 41, 60};
        for (int count : counts) {
            ScriptBench bench = Checks.gives("LET 0 NUM " + (count - 1) + " WHILE HOST VAR 0 SET 0 SUB VAR 0 NUM 1", Checks.NIL, 0);
            Checks.due("NOTED of " + count, bench.host(-1, 0), count);
            int kept = count < 40 ? count : 40;
            for (int k = 0; k < 64; k++) {
                Checks.due("sort " + k + " of " + count, bench.host(k, 0), k < kept ? Checks.INT : -1);
                Checks.due("number " + k + " of " + count, bench.host(k, 1), k < kept ? count - 1 - k : -1);
            }
        }
        // The next run begins with none.
        ScriptBench bench = Checks.gives("LET 0 NUM 59 WHILE HOST VAR 0 SET 0 SUB VAR 0 NUM 1", Checks.NIL, 0);
        Checks.due("run again, a little", bench.run(5), ScriptBench.LONG);
        Checks.noted(bench, 59);
        Checks.due("no second", bench.host(1, 1), -1);
    }

    // "-1 if there is none, or for others"; Promise 14: "with k = -1 the answer is how many were NOTED, whatever what is"
    private static void hostOthers() {
        ScriptBench bench = Checks.gives("SEQ HOST NUM 7 HOST NUM 9", Checks.INT, 9);
        int[] others = {-2, -1, 2, 3};
        for (int what : others) {
            Checks.due("host 0, " + what, bench.host(0, what), -1);
            Checks.due("host 1, " + what, bench.host(1, what), -1);
            Checks.due("host 2, " + what, bench.host(2, what), -1);
            Checks.due("host -1, " + what, bench.host(-1, what), 2);
        }
        for (int far : FAR) {
            Checks.due("host 0, " + far, bench.host(0, far), -1);
            Checks.due("host -1, " + far, bench.host(-1, far), 2);
            Checks.due("host " + far + ", 0", bench.host(far, 0), -1);
            Checks.due("host " + far + ", 1", bench.host(far, 1), -1);
        }
        Checks.due("host -2, 0", bench.host(-2, 0), -1);
        Checks.due("host -2, 1", bench.host(-2, 1), -1);
        Checks.due("host 2, 0", bench.host(2, 0), -1);
        Checks.due("host 2, 1", bench.host(2, 1), -1);
        Checks.due("host -1, 0", bench.host(-1, 0), 2);
        Checks.due("host -1, 1", bench.host(-1, 1), 2);
    }

    // Promises 12 and 13: "-1 if there is none"; "-1 if it does not"
    private static void generators() {
        for (int made = 0; made <= 8; made++) {
            String script = "LET 0 FN 1 YIELD NIL LET 2 NUM " + (made + 1) + " WHILE SET 2 SUB VAR 2 NUM 1 RESUME APP VAR 0 NIL NIL";
            ScriptBench bench = Checks.gives(script, Checks.NIL, 0);
            for (int g = -2; g <= 10; g++) {
                boolean there = g >= 0 && g < made;
                Checks.due("generator " + g + " of " + made, bench.generator(g), there ? 1 : -1);
                Checks.due("waits " + g + " of " + made, bench.waits(g), there ? 2 : -1);
            }
            for (int far : FAR) {
                Checks.due("generator " + far, bench.generator(far), -1);
                Checks.due("waits " + far, bench.waits(far), -1);
            }
        }
    }

    // Promise 14: "After compile, however it answers, there was no latest run: sort, steps, host and generator answer as at first."
    private static void compileForgetsTheRun() {
        String script = "LET 0 APP FN 1 YIELD HOST NUM 3 NIL SEQ RESUME VAR 0 NIL HOST NUM 5";
        String[] next = {"", "NIL", "VAR 0", "BREAK", "SEQ"};
        int[] answers = {ScriptBench.SHAPE, ScriptBench.OK, ScriptBench.UNBOUND, ScriptBench.OUTSIDE, ScriptBench.SHAPE};
        for (int n = 0; n < next.length; n++) {
            ScriptBench bench = Checks.gives(script, Checks.INT, 5);
            bench.wipe();
            if (n > 0) {
                Checks.append(bench, next[n]);
            }
            Checks.due("sort before compile", bench.sort(), Checks.INT);
            Checks.due("compile of " + next[n], bench.compile(), answers[n]);
            noRun("compiled: " + next[n], bench);
        }
        ScriptBench bench = Checks.compiled("WHILE NUM 1 NIL");
        bench.run(600);
        bench.compile();
        noRun("compiled after LONG", bench);
    }

    // "compile: SHAPE is tested before UNBOUND, UNBOUND before OUTSIDE."
    private static void order() {
        refused("VAR 0 NIL", ScriptBench.SHAPE, 1);
        refused("SEQ VAR 0", ScriptBench.SHAPE, 2);
        refused("BREAK NIL", ScriptBench.SHAPE, 1);
        refused("YIELD", ScriptBench.SHAPE, 1);
        refused("SEQ BREAK VAR 0", ScriptBench.UNBOUND, 2);
        refused("SEQ VAR 0 BREAK", ScriptBench.UNBOUND, 1);
        refused("SEQ NEXT SET 0 NIL", ScriptBench.UNBOUND, 2);
        refused("YIELD VAR 0", ScriptBench.UNBOUND, 1);
        refused("SEQ BREAK SEQ VAR 0", ScriptBench.SHAPE, 4);
    }
}
