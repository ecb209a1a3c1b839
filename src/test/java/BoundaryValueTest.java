/** The boundary cases of "Terms" up to HOST: each method tests the sentence that stands above it. */
public final class BoundaryValueTest {
    private static final String L31 = "ADD NUM 2147483647 NUM 1";
    private static final String LONG_ZERO = "LET 5 " + L31 + " SUB VAR 5 VAR 5";
    private static final String LONG_ONE = "LET 5 " + L31 + " DIV VAR 5 VAR 5";
    private static final String LONG_MINUS_ONE = "LET 5 " + L31 + " DIV VAR 5 SUB NUM 0 VAR 5";
    private static final String L32 = "MUL NUM 65536 NUM 65536";
    private static final String L62 = "MUL NUM -2147483648 NUM -2147483648";
    private static final String LEAST = "MUL " + L62 + " NUM -2";
    private static final String GREATEST = "SUB NUM -1 " + LEAST;
    private static final String FUNCTION = "FN 5 NIL";
    private static final String GENERATOR = "APP FN 5 YIELD NIL NIL";

    public static void main(String[] args) {
        anyInt();
        names();
        falseAndTrue();
        innermostBinder();
        boundInFAlone();
        ownFnOfTheScript();
        intOrLong();
        otherwiseLong();
        resultIsNone();
        byZero();
        cutsOffTowardsZero();
        noNumbers();
        noNumbersFirst();
        noFunction();
        operandsBeforeTests();
        lessIsOneOrZero();
        sameOfAllSorts();
        sameFunctionOrGenerator();
        whileWithoutARound();
        breakAndNext();
        setIsSeenInAllPlaces();
        newVariableEachTime();
        hostBelowZero();
        operatorsThrowInts();
        finallyEndsAsItsE();
        Checks.end();
    }

    // "NUM n (any int)"; "NUM an INT."
    private static void anyInt() {
        int[] numbers = {0, 1, -1, 5, 6, 26, 27, 48, Integer.MAX_VALUE, Integer.MAX_VALUE - 1, Integer.MIN_VALUE, Integer.MIN_VALUE + 1};
        for (int number : numbers) {
            Checks.gives("NUM " + number, Checks.INT, number);
        }
    }

    // "k is a NAME 0..5"
    private static void names() {
        for (int k = 0; k <= 5; k++) {
            Checks.gives("LET " + k + " NUM 3 ADD VAR " + k + " SET " + k + " NUM 4", Checks.INT, 7);
            Checks.gives("APP FN " + k + " ADD VAR " + k + " SET " + k + " NUM 4 NUM 3", Checks.INT, 7);
            Checks.gives("TRY " + k + " THROW NUM 3 ADD VAR " + k + " SET " + k + " NUM 4", Checks.INT, 7);
        }
        Checks.gives("LET 0 NUM 1 LET 1 NUM 2 LET 2 NUM 4 LET 3 NUM 8 LET 4 NUM 16 LET 5 NUM 32 "
            + "ADD VAR 0 MUL NUM 2 ADD VAR 1 MUL NUM 2 ADD VAR 2 MUL NUM 2 ADD VAR 3 MUL NUM 2 ADD VAR 4 MUL NUM 2 VAR 5",
            Checks.INT, 1 + 4 + 16 + 64 + 256 + 1024);
    }

    // "NIL and numbers that are 0 are FALSE, all others TRUE."
    private static void falseAndTrue() {
        String[] falseOnes = {"NIL", "NUM 0", LONG_ZERO};
        for (String value : falseOnes) {
            Checks.gives("IF " + value + " NUM 2 NUM 3", Checks.INT, 3);
            Checks.gives("SEQ WHILE " + value + " RETURN NUM 2 NUM 3", Checks.INT, 3);
        }
        String[] trueOnes = {"NUM 1", "NUM -1", "NUM 2147483647", "NUM -2147483648", LONG_ONE, LONG_MINUS_ONE, L32, L62, LEAST,
            GREATEST, FUNCTION, GENERATOR};
        for (String value : trueOnes) {
            Checks.gives("IF " + value + " NUM 2 NUM 3", Checks.INT, 2);
            Checks.gives("SEQ WHILE " + value + " RETURN NUM 2 NUM 3", Checks.INT, 2);
        }
        // A generator that has ENDED is TRUE, too.
        Checks.gives("LET 0 " + GENERATOR + " SEQ CLOSE VAR 0 IF VAR 0 NUM 2 NUM 3", Checks.INT, 2);
    }

    // "VAR and SET mean the variable of the innermost binder of their name in whose F (or body) they stand."
    private static void innermostBinder() {
        String[][] binders = {{"LET 0 NUM 7 ", ""}, {"TRY 0 THROW NUM 7 ", ""}, {"APP FN 0 ", " NUM 7"}};
        for (String[] outer : binders) {
            for (String[] inner : binders) {
                String seen = outer[0] + inner[0].replace('7', '8') + "VAR 0" + inner[1].replace('7', '8') + outer[1];
                Checks.gives(seen, Checks.INT, 8);
                String set = outer[0] + "SEQ " + inner[0] + "SET 0 NUM 9" + inner[1] + " VAR 0" + outer[1];
                Checks.gives(set, Checks.INT, 7);
                String otherName = outer[0] + "SEQ " + inner[0].replace("0 ", "1 ") + "SET 0 NUM 9" + inner[1] + " VAR 0" + outer[1];
                Checks.gives(otherName, Checks.INT, 9);
            }
        }
    }

    // "LET and TRY in their F, FN in its E"
    private static void boundInFAlone() {
        Checks.gives("LET 0 NUM 1 LET 0 SET 0 NUM 5 SEQ SET 0 NUM 6 VAR 0", Checks.INT, 6);
        Checks.gives("LET 0 NUM 1 SEQ LET 0 SET 0 NUM 5 SET 0 NUM 6 VAR 0", Checks.INT, 5);
        Checks.gives("LET 0 NUM 1 SEQ TRY 0 THROW SET 0 NUM 5 SET 0 NUM 6 VAR 0", Checks.INT, 5);
        Checks.gives("LET 0 NUM 1 SEQ APP FN 0 SET 0 NUM 6 SET 0 NUM 5 VAR 0", Checks.INT, 5);
        Checks.gives("LET 0 NUM 1 TRY 0 VAR 0 NIL", Checks.INT, 1);
    }

    // "The OWN FN of a token is the innermost one in whose body it stands; without one it is the script's."
    private static void ownFnOfTheScript() {
        Checks.noted(Checks.gives("SEQ RETURN NUM 1 HOST NUM 8", Checks.INT, 1));
        Checks.noted(Checks.gives("APP FN 0 HOST NUM 8 RETURN NUM 1", Checks.INT, 1));
        Checks.gives("ADD NUM 1 APP FN 0 RETURN ADD NUM 1 APP FN 1 RETURN NUM 1 NIL NIL", Checks.INT, 3);
    }

    // "ADD, SUB, MUL, DIV of two INTs: an INT, if the result is one, else a LONG"
    private static void intOrLong() {
        Checks.gives("ADD NUM 2147483646 NUM 1", Checks.INT, Integer.MAX_VALUE);
        Checks.gives("ADD NUM 2147483647 NUM 1", Checks.LONG, Integer.MAX_VALUE + 1L);
        Checks.gives("ADD NUM 2147483647 NUM 2147483647", Checks.LONG, 2L * Integer.MAX_VALUE);
        Checks.gives("ADD NUM -2147483647 NUM -1", Checks.INT, Integer.MIN_VALUE);
        Checks.gives("ADD NUM -2147483648 NUM -1", Checks.LONG, Integer.MIN_VALUE - 1L);
        Checks.gives("ADD NUM -2147483648 NUM -2147483648", Checks.LONG, 2L * Integer.MIN_VALUE);
        Checks.gives("SUB NUM 2147483646 NUM -1", Checks.INT, Integer.MAX_VALUE);
        Checks.gives("SUB NUM 2147483647 NUM -1", Checks.LONG, Integer.MAX_VALUE + 1L);
        Checks.gives("SUB NUM 0 NUM -2147483648", Checks.LONG, Integer.MAX_VALUE + 1L);
        Checks.gives("SUB NUM -1 NUM -2147483648", Checks.INT, Integer.MAX_VALUE);
        Checks.gives("SUB NUM -2147483647 NUM 1", Checks.INT, Integer.MIN_VALUE);
        Checks.gives("SUB NUM -2147483648 NUM 1", Checks.LONG, Integer.MIN_VALUE - 1L);
        Checks.gives("MUL NUM 32768 NUM -65536", Checks.INT, Integer.MIN_VALUE);
        Checks.gives("MUL NUM 32768 NUM 65536", Checks.LONG, Integer.MAX_VALUE + 1L);
        Checks.gives("MUL NUM -2147483648 NUM -1", Checks.LONG, Integer.MAX_VALUE + 1L);
        Checks.gives("MUL NUM 2147483647 NUM -1", Checks.INT, -Integer.MAX_VALUE);
        Checks.gives(L32, Checks.LONG, 1L << 32);
        Checks.gives(L62, Checks.LONG, 1L << 62);
        Checks.gives("DIV NUM -2147483648 NUM -1", Checks.LONG, Integer.MAX_VALUE + 1L);
        Checks.gives("DIV NUM -2147483648 NUM 1", Checks.INT, Integer.MIN_VALUE);
        Checks.gives("DIV NUM 2147483647 NUM -1", Checks.INT, -Integer.MAX_VALUE);
    }

    // "otherwise a LONG"
    private static void otherwiseLong() {
        String[] operators = {"ADD", "SUB", "MUL", "DIV"};
        long[] withOne = {2, 0, 1, 1};
        for (int n = 0; n < operators.length; n++) {
            Checks.gives(operators[n] + " NUM 1 NUM 1", Checks.INT, withOne[n]);
            Checks.gives(operators[n] + " NUM 1 " + LONG_ONE, Checks.LONG, withOne[n]);
            Checks.gives(operators[n] + " " + LONG_ONE + " NUM 1", Checks.LONG, withOne[n]);
            Checks.gives(operators[n] + " " + LONG_ONE + " " + LONG_ONE, Checks.LONG, withOne[n]);
        }
    }

    // "they throw -2 if the result is none"
    private static void resultIsNone() {
        Checks.gives(GREATEST, Checks.LONG, Long.MAX_VALUE);
        Checks.gives(LEAST, Checks.LONG, Long.MIN_VALUE);
        Checks.gives("ADD NUM 0 " + GREATEST, Checks.LONG, Long.MAX_VALUE);
        Checks.throwsCode("ADD NUM 1 " + GREATEST, -2);
        Checks.throwsCode("ADD " + GREATEST + " " + GREATEST, -2);
        Checks.gives("ADD " + GREATEST + " " + LEAST, Checks.LONG, -1);
        Checks.throwsCode("ADD " + LEAST + " NUM -1", -2);
        Checks.throwsCode("ADD " + LEAST + " " + LEAST, -2);
        Checks.throwsCode("SUB " + GREATEST + " NUM -1", -2);
        Checks.throwsCode("SUB " + LEAST + " NUM 1", -2);
        Checks.gives("SUB " + LEAST + " " + LEAST, Checks.LONG, 0);
        Checks.throwsCode("SUB NUM 0 " + LEAST, -2);
        Checks.gives("SUB NUM 0 " + GREATEST, Checks.LONG, -Long.MAX_VALUE);
        Checks.throwsCode("SUB NUM -2 " + GREATEST, -2);
        Checks.gives("MUL " + GREATEST + " NUM -1", Checks.LONG, -Long.MAX_VALUE);
        Checks.gives("MUL NUM -1 " + GREATEST, Checks.LONG, -Long.MAX_VALUE);
        Checks.throwsCode("MUL " + GREATEST + " NUM 2", -2);
        Checks.throwsCode("MUL NUM -2 " + GREATEST, -2);
        Checks.throwsCode("MUL " + LEAST + " NUM -1", -2);
        Checks.throwsCode("MUL NUM -1 " + LEAST, -2);
        Checks.throwsCode("MUL " + LEAST + " NUM 2", -2);
        Checks.throwsCode("MUL " + L62 + " NUM 2", -2);
        Checks.gives("MUL NUM -2 " + L62, Checks.LONG, Long.MIN_VALUE);
        Checks.throwsCode("MUL NUM -3 " + L62, -2);
        // The product is a multiple of 2 to the 64th, and would wrap around to 0.
        Checks.throwsCode("MUL " + L32 + " " + L32, -2);
        Checks.throwsCode("DIV " + LEAST + " NUM -1", -2);
        Checks.throwsCode("DIV " + LEAST + " " + LONG_MINUS_ONE, -2);
        Checks.gives("DIV " + GREATEST + " NUM -1", Checks.LONG, -Long.MAX_VALUE);
        Checks.gives("DIV " + LEAST + " NUM 1", Checks.LONG, Long.MIN_VALUE);
        Checks.gives("DIV " + LEAST + " NUM -2", Checks.LONG, 1L << 62);
    }

    // "DIV throws -1 by 0"
    private static void byZero() {
        String[] numbers = {"NUM 0", "NUM 5", "NUM -5", "NUM -2147483648", LONG_ZERO, L32, LEAST};
        for (String number : numbers) {
            Checks.throwsCode("DIV " + number + " NUM 0", -1);
            Checks.throwsCode("DIV " + number + " " + LONG_ZERO, -1);
        }
        Checks.gives("DIV NUM 0 NUM 5", Checks.INT, 0);
        Checks.gives("DIV NUM 5 " + L32, Checks.LONG, 0);
    }

    // "and cuts off towards 0"
    private static void cutsOffTowardsZero() {
        Checks.gives("DIV NUM 7 NUM 8", Checks.INT, 0);
        Checks.gives("DIV NUM -7 NUM 8", Checks.INT, 0);
        Checks.gives("DIV NUM 7 NUM -8", Checks.INT, 0);
        Checks.gives("DIV NUM -1 NUM 2", Checks.INT, 0);
        Checks.gives("DIV NUM -15 NUM 8", Checks.INT, -1);
        Checks.gives("DIV NUM 15 NUM -8", Checks.INT, -1);
        Checks.gives("DIV NUM -15 NUM -8", Checks.INT, 1);
        Checks.gives("DIV SUB NUM 0 " + L32 + " NUM 65537", Checks.LONG, -65535);
        Checks.gives("DIV NUM -1 " + L32, Checks.LONG, 0);
    }

    // "7 to 11 throw -3 if a value is no number"
    private static void noNumbers() {
        String[] operators = {"ADD", "SUB", "MUL", "DIV", "LESS"};
        String[] others = {"NIL", FUNCTION, GENERATOR};
        String[] numbers = {"NUM 0", "NUM 1", LONG_ZERO, LONG_ONE};
        for (String operator : operators) {
            for (String other : others) {
                for (String number : numbers) {
                    Checks.throwsCode(operator + " " + other + " " + number, -3);
                    Checks.throwsCode(operator + " " + number + " " + other, -3);
                }
                for (String second : others) {
                    Checks.throwsCode(operator + " " + other + " " + second, -3);
                }
            }
        }
        Checks.gives("SAME NIL NUM 1", Checks.INT, 0);
    }

    // "-3 (a value that is no number) is tested before -1 and -2"
    private static void noNumbersFirst() {
        Checks.throwsCode("DIV NIL NUM 0", -3);
        Checks.throwsCode("DIV " + FUNCTION + " " + LONG_ZERO, -3);
        Checks.throwsCode("DIV " + GENERATOR + " NUM 0", -3);
        Checks.throwsCode("MUL " + LEAST + " NIL", -3);
    }

    // "APP: throws -3 if E's value is no FUNCTION"
    private static void noFunction() {
        String[] others = {"NIL", "NUM 0", "NUM 1", LONG_ZERO, L32, GENERATOR};
        for (String other : others) {
            Checks.noted(Checks.throwsCode("APP " + other + " HOST NUM 4", -3), 4);
            // A FUNCTION whose number is the value's does not help.
            Checks.throwsCode("LET 0 " + FUNCTION + " APP " + other + " NIL", -3);
        }
    }

    // Promise 14: "Operands of APP, RESUME and of 7 to 12 are all worked out before one of them is tested."
    private static void operandsBeforeTests() {
        String[] kinds = {"APP", "RESUME", "ADD", "SUB", "MUL", "DIV", "LESS"};
        for (String kind : kinds) {
            Checks.noted(Checks.throwsCode(kind + " NIL HOST NUM 2", -3), 2);
            Checks.noted(Checks.throwsCode(kind + " HOST NUM 0 SEQ HOST NUM 2 NIL", -3), 0, 2);
            Checks.throwsCode(kind + " NIL THROW NUM 9", 9);
            Checks.gives(kind + " NIL RETURN NUM 9", Checks.INT, 9);
        }
        Checks.noted(Checks.gives("SAME NIL HOST NUM 2", Checks.INT, 0), 2);
        Checks.throwsCode("SAME NIL THROW NUM 9", 9);
        // F may set the variable that E was: E's value is the one that it had.
        Checks.gives("LET 0 FN 1 NUM 3 APP VAR 0 SET 0 NIL", Checks.INT, 3);
        Checks.gives("LET 0 NUM 3 SUB VAR 0 SET 0 NUM 1", Checks.INT, 2);
        Checks.throwsCode("LET 0 NIL APP VAR 0 SET 0 FN 1 NUM 3", -3);
    }

    // "LESS: INT 1 or 0."
    private static void lessIsOneOrZero() {
        Checks.gives("LESS NUM -2147483648 NUM 2147483647", Checks.INT, 1);
        Checks.gives("LESS NUM 2147483647 NUM -2147483648", Checks.INT, 0);
        Checks.gives("LESS NUM 2147483646 NUM 2147483647", Checks.INT, 1);
        Checks.gives("LESS NUM -1 NUM 0", Checks.INT, 1);
        Checks.gives("LESS NUM 0 NUM 0", Checks.INT, 0);
        Checks.gives("LESS NUM 0 " + LONG_ZERO, Checks.INT, 0);
        Checks.gives("LESS " + LONG_ZERO + " NUM 0", Checks.INT, 0);
        Checks.gives("LESS NUM 2147483647 " + L31, Checks.INT, 1);
        Checks.gives("LESS NUM 1 " + L32, Checks.INT, 1);
        Checks.gives("LESS " + L32 + " NUM 1", Checks.INT, 0);
        Checks.gives("LESS " + LEAST + " " + GREATEST, Checks.INT, 1);
        Checks.gives("LESS " + GREATEST + " " + LEAST, Checks.INT, 0);
        Checks.gives("LESS " + LEAST + " " + LEAST, Checks.INT, 0);
    }

    // "SAME: 1 if both are numbers that are equal, NIL, the same FUNCTION, or the same GENERATOR, else 0."
    private static void sameOfAllSorts() {
        // The number of each of these values is 0, so that only the sorts tell them apart.
        String[] zeros = {"NIL", "NUM 0", LONG_ZERO, FUNCTION, GENERATOR};
        for (int a = 0; a < zeros.length; a++) {
            for (int b = 0; b < zeros.length; b++) {
                boolean numbers = (a == 1 || a == 2) && (b == 1 || b == 2);
                boolean same = numbers || (a == 0 && b == 0);
                Checks.gives("SAME " + zeros[a] + " " + zeros[b], Checks.INT, same ? 1 : 0);
            }
        }
        Checks.gives("SAME NUM 1 " + LONG_ONE, Checks.INT, 1);
        Checks.gives("SAME " + LONG_MINUS_ONE + " NUM -1", Checks.INT, 1);
        Checks.gives("SAME NUM 0 " + L32, Checks.INT, 0);
        Checks.gives("SAME NUM -2147483648 " + L31, Checks.INT, 0);
        Checks.gives("SAME " + LEAST + " " + LEAST, Checks.INT, 1);
        Checks.gives("SAME " + LEAST + " " + GREATEST, Checks.INT, 0);
    }

    private static void sameFunctionOrGenerator() {
        Checks.gives("LET 0 " + FUNCTION + " LET 1 VAR 0 SAME VAR 0 VAR 1", Checks.INT, 1);
        Checks.gives("LET 0 " + GENERATOR + " LET 1 VAR 0 SAME VAR 0 VAR 1", Checks.INT, 1);
        // "FN: a new FUNCTION" whenever it is worked out.
        Checks.noted(Checks.gives("LET 0 NIL LET 1 NUM 2 WHILE VAR 1 LET 2 FN 3 NIL SEQ HOST SAME VAR 0 VAR 2 "
            + "SEQ SET 0 VAR 2 SET 1 SUB VAR 1 NUM 1", Checks.NIL, 0), 0, 0);
        Checks.gives("LET 0 FN 1 FN 2 NIL LET 3 APP VAR 0 NIL SAME VAR 3 APP VAR 0 NIL", Checks.INT, 0);
        // A generator is the same one before, during and after its work.
        Checks.gives("LET 0 NIL LET 1 NIL SEQ SET 0 APP FN 2 YIELD SAME VAR 0 VAR 1 NIL SEQ SET 1 VAR 0 RESUME VAR 0 NIL",
            Checks.INT, 1);
        Checks.gives("LET 0 " + GENERATOR + " LET 1 VAR 0 SEQ CLOSE VAR 1 SAME VAR 0 VAR 1", Checks.INT, 1);
    }

    // "WHILE: E, and as long as it is TRUE F, then E again; then NIL."
    private static void whileWithoutARound() {
        Checks.noted(Checks.gives("WHILE HOST NUM 0 HOST NUM 8", Checks.NIL, 0), 0);
        Checks.noted(Checks.gives("LET 0 NUM 1 WHILE HOST VAR 0 SET 0 NUM 0", Checks.NIL, 0), 1, 0);
        Checks.due("steps without a round", Checks.gives("WHILE NIL NUM 1", Checks.NIL, 0).steps(), 2);
    }

    // "BREAK ends the innermost WHILE in whose F it stands with NIL; NEXT goes on with its E."
    private static void breakAndNext() {
        Checks.gives("SAME NIL WHILE NUM 1 BREAK", Checks.INT, 1);
        Checks.noted(Checks.gives("LET 0 NUM 1 WHILE HOST VAR 0 SEQ SET 0 NUM 0 NEXT", Checks.NIL, 0), 1, 0);
        Checks.noted(Checks.gives("LET 0 NUM 3 WHILE SET 0 SUB HOST VAR 0 NUM 1 WHILE NUM 1 BREAK", Checks.NIL, 0), 3, 2, 1);
        // In the E of the inner WHILE the outer one is meant.
        Checks.noted(Checks.gives("LET 0 NUM 3 WHILE SET 0 SUB HOST VAR 0 NUM 1 WHILE BREAK HOST NUM 8", Checks.NIL, 0), 3);
        Checks.noted(Checks.gives("LET 0 NUM 3 WHILE SET 0 SUB HOST VAR 0 NUM 1 WHILE NEXT HOST NUM 8", Checks.NIL, 0), 3, 2, 1);
        // A WHILE that a function works out meanwhile has its own BREAK.
        Checks.noted(Checks.gives("LET 0 NUM 2 WHILE SET 0 SUB HOST VAR 0 NUM 1 APP FN 1 WHILE NUM 1 BREAK NIL", Checks.NIL, 0),
            2, 1);
    }

    // "FN: a new FUNCTION, which shares all variables that are bound at its place"
    private static void setIsSeenInAllPlaces() {
        Checks.gives("LET 0 NUM 1 LET 1 FN 2 SET 0 ADD VAR 0 VAR 2 SEQ APP VAR 1 NUM 1 SEQ SET 0 MUL VAR 0 NUM 10 "
            + "SEQ APP VAR 1 NUM 3 VAR 0", Checks.INT, 23);
        // Also when the binder's F has long ended, and from a generator.
        Checks.gives("LET 0 LET 1 NUM 5 APP FN 2 WHILE NUM 1 YIELD SET 1 ADD VAR 1 NUM 1 NIL "
            + "SEQ RESUME VAR 0 NIL RESUME VAR 0 NIL", Checks.INT, 7);
        Checks.gives("LET 0 TRY 1 THROW NUM 5 FN 2 SET 1 ADD VAR 1 NUM 1 SEQ APP VAR 0 NIL APP VAR 0 NIL", Checks.INT, 7);
    }

    // "LET: a new variable has E's value"; so has APP's and TRY's: a FUNCTION made before keeps the old one.
    private static void newVariableEachTime() {
        String[][] binders = {{"LET 2 VAR 0 ", ""}, {"TRY 2 THROW VAR 0 ", ""}, {"APP FN 2 ", " VAR 0"}};
        for (String[] binder : binders) {
            Checks.gives("LET 0 NUM 3 LET 1 NIL SEQ WHILE VAR 0 SEQ " + binder[0] + "IF VAR 1 NIL SET 1 FN 3 VAR 2" + binder[1]
                + " SET 0 SUB VAR 0 NUM 1 APP VAR 1 NIL", Checks.INT, 3);
        }
    }

    // "HOST: E's value is NOTED; it is its value, but if it is an INT below 0 it throws it."
    private static void hostBelowZero() {
        Checks.noted(Checks.gives("HOST NUM 0", Checks.INT, 0), 0);
        Checks.noted(Checks.throwsCode("HOST NUM -1", -1), -1);
        Checks.noted(Checks.throwsCode("HOST NUM -2147483648", Integer.MIN_VALUE), Integer.MIN_VALUE);
        String[] others = {"NIL", LONG_ZERO, LONG_MINUS_ONE, LEAST, FUNCTION, GENERATOR};
        int[] sorts = {Checks.NIL, Checks.LONG, Checks.LONG, Checks.LONG, Checks.FUNCTION, Checks.GENERATOR};
        long[] numbers = {0, 0, -1, Long.MIN_VALUE, 1, 0};
        for (int n = 0; n < others.length; n++) {
            ScriptBench bench = Checks.gives("HOST " + others[n], sorts[n], numbers[n]);
            Checks.due("one NOTED: " + others[n], bench.host(-1, 0), 1);
            Checks.due("sort of " + others[n], bench.host(0, 0), sorts[n]);
            Checks.due("number of " + others[n], bench.host(0, 1), numbers[n]);
        }
    }

    // "(What an operator throws are INTs.)"; TRY catches each of them.
    private static void operatorsThrowInts() {
        String[] throwing = {"DIV NUM 1 " + LONG_ZERO, "ADD NUM 1 " + GREATEST, "ADD NIL " + LONG_ONE};
        for (int n = 0; n < throwing.length; n++) {
            Checks.throwsCode(throwing[n], -1 - n);
            Checks.gives("TRY 0 " + throwing[n] + " VAR 0", Checks.INT, -1 - n);
        }
        Checks.gives("TRY 1 LET 2 NIL SEQ SET 2 APP FN 3 YIELD RESUME VAR 2 NIL NIL RESUME VAR 2 NIL VAR 1", Checks.INT, -4);
        Checks.gives("TRY 1 LET 2 NIL SEQ SET 2 FN 3 APP VAR 2 NIL APP VAR 2 NIL VAR 1", Checks.INT, -5);
        Checks.gives("TRY 1 WHILE NUM 1 APP FN 3 YIELD NIL NIL VAR 1", Checks.INT, -6);
    }

    // "it ends as E did - but if F ends otherwise than with a value, as F did"
    private static void finallyEndsAsItsE() {
        String[] values = {"NIL", "NUM 5", LONG_ONE, "FN 1 NIL", "APP FN 1 YIELD NIL NIL"};
        int[] sorts = {Checks.NIL, Checks.INT, Checks.LONG, Checks.FUNCTION, Checks.GENERATOR};
        long[] numbers = {0, 5, 1, 1, 0};
        for (int n = 0; n < values.length; n++) {
            long later = sorts[n] == Checks.FUNCTION ? 1 : 0;
            Checks.gives("FINALLY " + values[n] + " NUM 9", sorts[n], numbers[n]);
            Checks.gives("FINALLY RETURN " + values[n] + " NUM 9", sorts[n], numbers[n] + later);
            Checks.throwsIt("FINALLY THROW " + values[n] + " NUM 9", sorts[n], numbers[n] + later);
            Checks.throwsIt("FINALLY RETURN NUM 9 THROW " + values[n], sorts[n], numbers[n] + 3 * later);
            Checks.gives("FINALLY THROW NUM 9 RETURN " + values[n], sorts[n], numbers[n] + 3 * later);
        }
    }
}
