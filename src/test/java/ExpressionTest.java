/** Promises 7 to 9: values, numbers, variables and functions. */
public final class ExpressionTest {
    private static final String BIG = "ADD NUM 2147483647 NUM 1";
    private static final String LONG_ZERO = "SUB ADD NUM 2147483647 NUM 1 ADD NUM 2147483647 NUM 1";
    // 2 to the 62nd, by squaring 2 to the 31st.
    private static final String HUGE = "LET 5 " + BIG + " MUL VAR 5 VAR 5";
    // The least LONG: -(2 to the 62nd) twice.
    private static final String LEAST = "LET 5 " + BIG + " MUL MUL VAR 5 VAR 5 NUM -2";
    private static final long TWO_62 = 1L << 62;

    public static void main(String[] args) {
        plainValues();
        intArithmetic();
        longArithmetic();
        tooBig();
        wrongSorts();
        less();
        same();
        variables();
        functions();
        order();
        Checks.end();
    }

    private static void plainValues() {
        Checks.gives("NIL", Checks.NIL, 0);
        Checks.gives("NUM 0", Checks.INT, 0);
        Checks.gives("NUM 2147483647", Checks.INT, Integer.MAX_VALUE);
        Checks.gives("NUM -2147483648", Checks.INT, Integer.MIN_VALUE);
        Checks.gives("FN 0 NIL", Checks.FUNCTION, 0);
        Checks.gives("SEQ NIL FN 0 NIL", Checks.FUNCTION, 2);
        Checks.gives("SEQ FN 0 NIL FN 0 NIL", Checks.FUNCTION, 3);
        Checks.gives("APP FN 0 YIELD NIL NIL", Checks.GENERATOR, 0);
        Checks.gives("SEQ APP FN 0 YIELD NIL NIL APP FN 0 YIELD NIL NIL", Checks.GENERATOR, 1);
        Checks.throwsIt("THROW FN 0 NIL", Checks.FUNCTION, 1);
        Checks.throwsIt("THROW APP FN 0 YIELD NIL NIL", Checks.GENERATOR, 0);
        Checks.throwsIt("THROW NIL", Checks.NIL, 0);
        Checks.throwsIt("THROW " + BIG, Checks.LONG, 2147483648L);
    }

    private static void intArithmetic() {
        Checks.gives("ADD NUM 2 NUM 3", Checks.INT, 5);
        Checks.gives("SUB NUM 2 NUM 3", Checks.INT, -1);
        Checks.gives("MUL NUM -4 NUM 3", Checks.INT, -12);
        Checks.gives("DIV NUM 7 NUM 2", Checks.INT, 3);
        Checks.gives("DIV NUM -7 NUM 2", Checks.INT, -3);
        Checks.gives("DIV NUM 7 NUM -2", Checks.INT, -3);
        Checks.gives("DIV NUM -7 NUM -2", Checks.INT, 3);
        Checks.gives("ADD NUM 2147483646 NUM 1", Checks.INT, 2147483647L);
        Checks.gives(BIG, Checks.LONG, 2147483648L);
        Checks.gives("SUB NUM -2147483648 NUM 1", Checks.LONG, -2147483649L);
        Checks.gives("SUB NUM -2147483647 NUM 1", Checks.INT, -2147483648L);
        Checks.gives("MUL NUM -2147483648 NUM -2147483648", Checks.LONG, TWO_62);
        Checks.gives("MUL NUM 65536 NUM 32768", Checks.LONG, 2147483648L);
        Checks.gives("MUL NUM 65536 NUM -32768", Checks.INT, -2147483648L);
        Checks.gives("DIV NUM -2147483648 NUM -1", Checks.LONG, 2147483648L);
        Checks.gives("DIV NUM 0 NUM 5", Checks.INT, 0);
        Checks.throwsCode("DIV NUM 5 NUM 0", -1);
        Checks.throwsCode("DIV NUM 0 NUM 0", -1);
    }

    private static void longArithmetic() {
        Checks.gives("SUB " + BIG + " NUM 1", Checks.LONG, 2147483647L);
        Checks.gives(LONG_ZERO, Checks.LONG, 0);
        Checks.gives("MUL NUM 0 " + BIG, Checks.LONG, 0);
        Checks.gives("DIV " + BIG + " " + BIG, Checks.LONG, 1);
        Checks.gives("DIV NUM 1 " + BIG, Checks.LONG, 0);
        Checks.gives("ADD NUM 1 " + LONG_ZERO, Checks.LONG, 1);
        Checks.gives(HUGE, Checks.LONG, TWO_62);
        Checks.gives(LEAST, Checks.LONG, Long.MIN_VALUE);
        Checks.gives("ADD " + LEAST + " NUM 1", Checks.LONG, Long.MIN_VALUE + 1);
        Checks.gives("DIV " + LEAST + " NUM 1", Checks.LONG, Long.MIN_VALUE);
        Checks.gives("DIV " + LEAST + " NUM 3", Checks.LONG, Long.MIN_VALUE / 3);
        Checks.gives("MUL " + LEAST + " NUM 1", Checks.LONG, Long.MIN_VALUE);
        Checks.gives("MUL NUM 1 " + LEAST, Checks.LONG, Long.MIN_VALUE);
        Checks.gives("MUL NUM 0 " + LEAST, Checks.LONG, 0);
        Checks.gives("MUL " + LEAST + " NUM 0", Checks.LONG, 0);
        Checks.gives("MUL " + BIG + " NUM -1", Checks.LONG, -2147483648L);
        Checks.gives("MUL NUM -1 " + BIG, Checks.LONG, -2147483648L);
        Checks.gives("SUB NUM -1 " + LEAST, Checks.LONG, Long.MAX_VALUE);
        Checks.gives("SUB ADD SUB " + HUGE + " NUM 1 " + HUGE + " NUM 0", Checks.LONG, Long.MAX_VALUE);
        Checks.throwsCode("DIV NUM 1 " + LONG_ZERO, -1);
        Checks.throwsCode("DIV " + BIG + " NUM 0", -1);
    }

    private static void tooBig() {
        Checks.throwsCode("ADD " + HUGE + " " + HUGE, -2);
        Checks.throwsCode("MUL " + HUGE + " NUM 2", -2);
        Checks.throwsCode("MUL NUM 2 " + HUGE, -2);
        Checks.throwsCode("MUL " + HUGE + " " + HUGE, -2);
        Checks.throwsCode("MUL NUM -1 " + LEAST, -2);
        Checks.throwsCode("MUL " + LEAST + " NUM -1", -2);
        Checks.throwsCode("DIV " + LEAST + " NUM -1", -2);
        Checks.throwsCode("SUB NUM 0 " + LEAST, -2);
        Checks.throwsCode("SUB " + LEAST + " NUM 1", -2);
        Checks.throwsCode("ADD " + LEAST + " NUM -1", -2);
        Checks.throwsCode("ADD " + LEAST + " " + LEAST, -2);
        Checks.throwsCode("SUB NUM 1 " + LEAST, -2);
    }

    private static void wrongSorts() {
        String[] noNumbers = {"NIL", "FN 0 NIL", "APP FN 0 YIELD NIL NIL"};
        String[] operators = {"ADD", "SUB", "MUL", "DIV", "LESS"};
        for (String operator : operators) {
            for (String value : noNumbers) {
                Checks.throwsCode(operator + " " + value + " NUM 1", -3);
                Checks.throwsCode(operator + " NUM 1 " + value, -3);
                Checks.throwsCode(operator + " " + value + " " + value, -3);
                Checks.throwsCode(operator + " " + value + " NUM 0", -3);
            }
        }
        Checks.throwsCode("APP NIL NIL", -3);
        Checks.throwsCode("APP NUM 1 NIL", -3);
        Checks.throwsCode("APP " + BIG + " NIL", -3);
        Checks.throwsCode("APP APP FN 0 YIELD NIL NIL NIL", -3);
    }

    private static void less() {
        Checks.gives("LESS NUM 1 NUM 2", Checks.INT, 1);
        Checks.gives("LESS NUM 2 NUM 2", Checks.INT, 0);
        Checks.gives("LESS NUM 3 NUM 2", Checks.INT, 0);
        Checks.gives("LESS NUM 3 " + BIG, Checks.INT, 1);
        Checks.gives("LESS " + BIG + " NUM 3", Checks.INT, 0);
        Checks.gives("LESS " + LEAST + " " + HUGE, Checks.INT, 1);
        Checks.gives("LESS NUM 2147483647 NUM -2147483648", Checks.INT, 0);
    }

    private static void same() {
        Checks.gives("SAME NUM 1 NUM 1", Checks.INT, 1);
        Checks.gives("SAME NUM 1 NUM 2", Checks.INT, 0);
        Checks.gives("SAME NUM 0 " + LONG_ZERO, Checks.INT, 1);
        Checks.gives("SAME " + LONG_ZERO + " NUM 0", Checks.INT, 1);
        Checks.gives("SAME " + BIG + " " + BIG, Checks.INT, 1);
        Checks.gives("SAME NIL NIL", Checks.INT, 1);
        Checks.gives("SAME NIL NUM 0", Checks.INT, 0);
        Checks.gives("SAME NUM 0 FN 0 NIL", Checks.INT, 0);
        Checks.gives("SAME NUM 0 APP FN 0 YIELD NIL NIL", Checks.INT, 0);
        Checks.gives("SAME FN 0 NIL APP FN 0 YIELD NIL NIL", Checks.INT, 0);
        Checks.gives("SAME NIL APP FN 0 YIELD NIL NIL", Checks.INT, 0);
        Checks.gives("SAME FN 0 NIL NIL", Checks.INT, 0);
        Checks.gives("SAME FN 0 NIL FN 0 NIL", Checks.INT, 0);
        Checks.gives("LET 0 FN 0 NIL SAME VAR 0 VAR 0", Checks.INT, 1);
        Checks.gives("LET 0 APP FN 0 YIELD NIL NIL SAME VAR 0 VAR 0", Checks.INT, 1);
        Checks.gives("LET 0 FN 1 YIELD NIL SAME APP VAR 0 NIL APP VAR 0 NIL", Checks.INT, 0);
        // One FN, worked out twice, makes two FUNCTIONs.
        Checks.gives("LET 0 FN 1 FN 2 NIL SAME APP VAR 0 NIL APP VAR 0 NIL", Checks.INT, 0);
    }

    private static void variables() {
        Checks.gives("LET 0 NUM 1 LET 1 NUM 2 SUB VAR 0 VAR 1", Checks.INT, -1);
        Checks.gives("LET 0 NUM 1 LET 0 ADD VAR 0 NUM 1 VAR 0", Checks.INT, 2);
        Checks.gives("LET 0 NUM 1 ADD LET 0 NUM 5 VAR 0 VAR 0", Checks.INT, 6);
        Checks.gives("LET 0 NUM 1 SET 0 NUM 7", Checks.INT, 7);
        Checks.gives("LET 0 NUM 1 SEQ SET 0 NUM 7 VAR 0", Checks.INT, 7);
        Checks.gives("LET 0 NUM 1 SEQ LET 0 NUM 2 SET 0 NUM 3 VAR 0", Checks.INT, 1);
        Checks.gives("LET 0 NUM 1 SEQ LET 1 NUM 2 SET 0 NUM 3 VAR 0", Checks.INT, 3);
        Checks.gives("LET 0 NUM 1 ADD SET 0 NUM 5 VAR 0", Checks.INT, 10);
        Checks.gives("LET 0 NUM 1 ADD VAR 0 SET 0 NUM 5", Checks.INT, 6);
        Checks.gives("LET 0 NUM 1 SEQ TRY 1 SET 0 THROW NIL NIL VAR 0", Checks.INT, 1);
    }

    private static void functions() {
        Checks.gives("APP FN 0 ADD VAR 0 NUM 1 NUM 4", Checks.INT, 5);
        Checks.gives("APP APP FN 0 FN 1 SUB VAR 0 VAR 1 NUM 9 NUM 4", Checks.INT, 5);
        // A counter keeps its variable from call to call.
        Checks.gives("LET 0 LET 1 NUM 0 FN 2 SET 1 ADD VAR 1 VAR 2 SEQ APP VAR 0 NUM 5 APP VAR 0 NUM 6",
            Checks.INT, 11);
        // What is set outside is seen inside, and what is set inside is seen outside.
        Checks.gives("LET 0 NUM 1 LET 1 FN 2 VAR 0 SEQ SET 0 NUM 8 APP VAR 1 NIL", Checks.INT, 8);
        Checks.gives("LET 0 NUM 1 SEQ APP FN 2 SET 0 VAR 2 NUM 9 VAR 0", Checks.INT, 9);
        // Each call has a variable of its own.
        Checks.gives("LET 0 FN 1 FN 2 SET 1 ADD VAR 1 NUM 1 LET 3 APP VAR 0 NUM 10 LET 4 APP VAR 0 NUM 20 "
            + "SEQ APP VAR 3 NIL SEQ APP VAR 3 NIL ADD APP VAR 4 NIL APP VAR 3 NIL", Checks.INT, 34);
        // Two functions made at one place share its variable.
        Checks.gives("LET 0 NUM 0 LET 1 FN 2 SET 0 VAR 2 LET 3 FN 2 VAR 0 SEQ APP VAR 1 NUM 6 APP VAR 3 NIL",
            Checks.INT, 6);
        // Where a function is called does not matter to its names.
        Checks.gives("LET 0 NUM 1 LET 1 FN 2 VAR 0 LET 0 NUM 2 APP VAR 1 NIL", Checks.INT, 1);
        Checks.gives("LET 0 NIL SEQ SET 0 FN 1 IF VAR 1 ADD VAR 1 APP VAR 0 SUB VAR 1 NUM 1 NUM 0 APP VAR 0 NUM 6",
            Checks.INT, 21);
        Checks.gives("LET 0 NUM 3 APP FN 0 SEQ SET 0 NUM 4 VAR 0 VAR 0", Checks.INT, 4);
        // Each round of a loop has a new variable, which the function of that round keeps.
        Checks.gives("LET 0 NUM 0 LET 1 NIL SEQ WHILE LESS VAR 0 NUM 2 LET 2 VAR 0 SEQ "
            + "IF VAR 1 NIL SET 1 FN 3 VAR 2 SET 0 ADD VAR 0 NUM 1 APP VAR 1 NIL", Checks.INT, 0);
    }

    private static void order() {
        String[] operators = {"ADD", "SUB", "MUL", "DIV", "LESS", "SAME", "SEQ"};
        for (String operator : operators) {
            Checks.noted(Checks.compiledAndRun(operator + " HOST NUM 1 HOST NUM 2"), 1, 2);
        }
        // All operands are worked out before one of them is tested.
        Checks.noted(Checks.throwsCode("ADD NIL HOST NUM 2", -3), 2);
        Checks.noted(Checks.throwsCode("APP HOST NUM 1 HOST NUM 2", -3), 1, 2);
        Checks.noted(Checks.throwsCode("RESUME HOST NUM 1 HOST NUM 2", -3), 1, 2);
        Checks.noted(Checks.throwsCode("ADD NIL THROW HOST NUM 2", 2), 2);
        Checks.noted(Checks.throwsCode("ADD THROW NUM 9 HOST NUM 2", 9));
        Checks.noted(Checks.throwsCode("APP NIL THROW NUM 4", 4));
    }
}
