import java.util.ArrayList;
import java.util.List;

/**
 * All promises: every script of the tokens below, as long as it is small, against the plain interpreter.
 * The other tests try what someone thought of; of these tokens nothing is left out up to the size. With an
 * argument of 1 the sizes are greater by 1, which takes some minutes.
 */
public final class SmallScriptTest {
    private static final int ROW_SIZE = 3, SCRIPT_SIZE = 4, BODY_SIZE = 5, USES = 3;

    // NUM and names are given with their operands: enough of them to tell two apart.
    private static final String[] ANY = {"NUM 0", "NUM 1", "NUM -1", "NIL", "VAR 0", "VAR 1", "SET 0", "SET 1", "LET 0", "LET 1",
        "FN 0", "FN 1", "APP", "ADD", "SUB", "MUL", "DIV", "LESS", "SAME", "IF", "WHILE", "SEQ", "BREAK", "NEXT", "RETURN",
        "THROW", "TRY 0", "TRY 1", "FINALLY", "YIELD", "RESUME", "DONE", "CLOSE", "HOST"};

    // In a body, name 0 is the generator itself and name 1 the argument, which a TRY may hide.
    private static final String[] IN_BODY = {"NUM 3", "VAR 0", "VAR 1", "BREAK", "NEXT", "SET 1", "YIELD", "THROW", "RETURN", "HOST",
        "CLOSE", "SEQ", "WHILE", "TRY 1", "FINALLY", "RESUME"};

    private static final String[] USE = {"RESUME VAR 0 NUM 0", "CLOSE VAR 0", "DONE VAR 0"};

    private static final Comparison comparison = new Comparison();
    private static int scripts = 0;

    public static void main(String[] args) {
        int more = args.length == 0 ? 0 : Integer.parseInt(args[0]);
        everyRow(ROW_SIZE + more);
        everyScript(SCRIPT_SIZE + more);
        everyBody(BODY_SIZE + more);
        comparison.dueEvents(50, "-2", "-5", "-6");
        Checks.end();
    }

    /** Rows of tokens of any shape, the empty one first. */
    private static void everyRow(int size) {
        List<String> rows = List.of("");
        for (int n = 0; n <= size; n++) {
            List<String> longer = new ArrayList<>();
            for (String row : rows) {
                compare(row);
                for (String token : n < size ? ANY : new String[0]) {
                    longer.add(row + " " + token);
                }
            }
            rows = longer;
        }
    }

    private static void everyScript(int size) {
        List<List<String>> all = expressions(ANY, size);
        for (List<String> sameSize : all) {
            for (String script : sameSize) {
                compare(script);
            }
        }
    }

    /** Every small body of a generator, with every row of uses. */
    private static void everyBody(int size) {
        int rows = (int) Math.pow(USE.length, USES);
        for (List<String> sameSize : expressions(IN_BODY, size)) {
            for (String body : sameSize) {
                for (int row = 0; row < rows && body.contains("YIELD"); row++) {
                    compare("LET 0 NIL SEQ SET 0 APP FN 1 " + body + " NUM 1" + uses(row));
                }
            }
        }
    }

    /**
     * What a use throws is NOTED, too, but not as it is: a code of below 0 would be thrown again. What the
     * last one throws ends the script.
     */
    private static String uses(int row) {
        StringBuilder words = new StringBuilder();
        int rest = row;
        for (int n = 1; n < USES; n++) {
            words.append(" SEQ TRY 2 HOST ").append(USE[rest % USE.length]).append(" HOST SUB NUM 0 VAR 2");
            rest /= USE.length;
        }
        return words + " " + USE[rest];
    }

    /** All expressions of these tokens, by their size. */
    private static List<List<String>> expressions(String[] tokens, int size) {
        List<List<String>> bySize = new ArrayList<>();
        bySize.add(List.of());
        for (int n = 1; n <= size; n++) {
            List<String> found = new ArrayList<>();
            for (String token : tokens) {
                addAll(found, token, parts(token), n - 1, bySize);
            }
            bySize.add(found);
        }
        return bySize;
    }

    /** All that begin so, with that many parts to come, of that many tokens in all. */
    private static void addAll(List<String> found, String begun, int parts, int tokens, List<List<String>> bySize) {
        if (parts == 0) {
            if (tokens == 0) {
                found.add(begun);
            }
            return;
        }
        for (int n = parts == 1 ? Math.max(tokens, 1) : 1; n <= tokens - parts + 1; n++) {
            for (String part : bySize.get(n)) {
                addAll(found, begun + " " + part, parts - 1, tokens - n, bySize);
            }
        }
    }

    private static int parts(String token) {
        return switch (token.split(" ")[0]) {
            case "NUM", "NIL", "VAR", "BREAK", "NEXT" -> 0;
            case "SET", "FN", "RETURN", "THROW", "YIELD", "DONE", "CLOSE", "HOST" -> 1;
            case "IF" -> 3;
            default -> 2;
        };
    }

    private static void compare(String words) {
        // As many scripts as there is room for in 512 calls, so that each must leave nothing to the next.
        if (scripts % 4 == 0) {
            comparison.useNewBench();
        }
        scripts++;
        List<int[]> tokens = Checks.tokens(words);
        int[] kinds = new int[tokens.size()];
        int[] operands = new int[tokens.size()];
        for (int n = 0; n < kinds.length; n++) {
            kinds[n] = tokens.get(n)[0];
            operands[n] = tokens.get(n)[1];
        }
        Reference reference = comparison.compile(kinds, operands);
        if (reference.compiled == ScriptBench.OK) {
            comparison.run(reference, 600, 6, 2);
            comparison.run(reference, 1 + scripts % reference.steps, 6, 2);
        }
    }
}
