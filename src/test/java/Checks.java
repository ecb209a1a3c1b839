import java.util.ArrayList;
import java.util.List;

/** What the tests share: scripts written as words, and answers compared with those that are due. */
final class Checks {
    static final List<String> KINDS = List.of(
        "NUM", "NIL", "VAR", "SET", "LET", "FN", "APP", "ADD", "SUB", "MUL", "DIV", "LESS", "SAME", "IF",
        "WHILE", "SEQ", "BREAK", "NEXT", "RETURN", "THROW", "TRY", "FINALLY", "YIELD", "RESUME", "DONE",
        "CLOSE", "HOST");

    static final int NIL = 0, INT = 1, LONG = 2, FUNCTION = 3, GENERATOR = 4;

    private static int wrong = 0;

    private Checks() {
    }

    static void due(String what, long got, long want) {
        if (got != want) {
            wrong++;
            System.out.println(what + " answered " + got + ", due is " + want);
        }
    }

    static void due(String what, boolean got, boolean want) {
        due(what, got ? 1 : 0, want ? 1 : 0);
    }

    /** Ends the test with exit code 1 if an answer was not the one that is due. */
    static void end() {
        if (wrong != 0) {
            System.exit(1);
        }
    }

    /** The tokens (kind, operand) of a script such as "LET 0 NUM 5 VAR 0"; NUM and names have an operand. */
    static List<int[]> tokens(String script) {
        List<int[]> tokens = new ArrayList<>();
        String[] words = script.trim().split("\\s+");
        for (int i = 0; i < words.length && !script.isBlank(); i++) {
            int kind = KINDS.indexOf(words[i]);
            if (kind < 0) {
                throw new IllegalArgumentException("no kind: " + words[i] + " in " + script);
            }
            boolean hasOperand = kind == 0 || (kind >= 2 && kind <= 5) || kind == 20;
            int operand = hasOperand ? Integer.parseInt(words[++i]) : 0;
            tokens.add(new int[] {kind, operand});
        }
        return tokens;
    }

    static void append(ScriptBench bench, String script) {
        for (int[] token : tokens(script)) {
            due("token " + KINDS.get(token[0]) + " of " + script, bench.token(token[0], token[1]), true);
        }
    }

    /** A new bench with these tokens, not compiled. */
    static ScriptBench withTokens(String script) {
        ScriptBench bench = new ScriptBench();
        append(bench, script);
        return bench;
    }

    /** A new bench with this script, compiled. */
    static ScriptBench compiled(String script) {
        ScriptBench bench = withTokens(script);
        due("compile of " + script, bench.compile(), ScriptBench.OK);
        due("place of " + script, bench.place(), -1);
        return bench;
    }

    static ScriptBench compiledAndRun(String script) {
        ScriptBench bench = compiled(script);
        bench.run(600);
        return bench;
    }

    /** Compiles a script and runs it with all the steps there are: how it ends. */
    static ScriptBench ended(String script, int how, int sort, long number) {
        ScriptBench bench = compiled(script);
        due("run of " + script, bench.run(600), how);
        due("sort of " + script, bench.sort(), sort);
        due("number of " + script, bench.number(), number);
        return bench;
    }

    static ScriptBench gives(String script, int sort, long number) {
        return ended(script, ScriptBench.VALUE, sort, number);
    }

    static ScriptBench throwsIt(String script, int sort, long number) {
        return ended(script, ScriptBench.THROWN, sort, number);
    }

    static ScriptBench throwsCode(String script, int code) {
        return throwsIt(script, INT, code);
    }

    /** What was NOTED, as INTs. */
    static void noted(ScriptBench bench, long... numbers) {
        due("how many were NOTED", bench.host(-1, 0), numbers.length);
        for (int k = 0; k < numbers.length; k++) {
            due("sort NOTED at " + k, bench.host(k, 0), INT);
            due("number NOTED at " + k, bench.host(k, 1), numbers[k]);
        }
    }
}
