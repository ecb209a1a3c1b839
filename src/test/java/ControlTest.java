/** Promise 7: IF, WHILE, RETURN, THROW, TRY, FINALLY. */
public final class ControlTest {
    public static void main(String[] args) {
        ifs();
        whiles();
        loopsInLoops();
        returns();
        throwsAndTries();
        finallys();
        finallysThatEndOtherwise();
        finallysInLoops();
        Checks.end();
    }

    private static void ifs() {
        Checks.gives("IF NUM 1 NUM 2 NUM 3", Checks.INT, 2);
        Checks.gives("IF NUM 0 NUM 2 NUM 3", Checks.INT, 3);
        Checks.gives("IF NUM -1 NUM 2 NUM 3", Checks.INT, 2);
        Checks.gives("IF NIL NUM 2 NUM 3", Checks.INT, 3);
        Checks.gives("IF FN 0 NIL NUM 2 NUM 3", Checks.INT, 2);
        Checks.gives("IF APP FN 0 YIELD NIL NIL NUM 2 NUM 3", Checks.INT, 2);
        Checks.gives("LET 0 ADD NUM 2147483647 NUM 1 IF SUB VAR 0 VAR 0 NUM 2 NUM 3", Checks.INT, 3);
        Checks.gives("LET 0 ADD NUM 2147483647 NUM 1 IF MUL VAR 0 NUM 2 NUM 2 NUM 3", Checks.INT, 2);
        Checks.noted(Checks.gives("IF HOST NUM 1 HOST NUM 2 HOST NUM 3", Checks.INT, 2), 1, 2);
        Checks.noted(Checks.gives("IF HOST NUM 0 HOST NUM 2 HOST NUM 3", Checks.INT, 3), 0, 3);
        Checks.throwsCode("IF THROW NUM 4 NIL NIL", 4);
    }

    private static void whiles() {
        Checks.gives("WHILE NIL NUM 3", Checks.NIL, 0);
        Checks.gives("WHILE NUM 0 NUM 3", Checks.NIL, 0);
        String countDown = "LET 0 NUM 3 WHILE HOST VAR 0 SET 0 SUB VAR 0 NUM 1";
        Checks.noted(Checks.gives(countDown, Checks.NIL, 0), 3, 2, 1, 0);
        Checks.gives("WHILE NUM 1 BREAK", Checks.NIL, 0);
        Checks.gives("WHILE NUM 1 ADD NUM 1 BREAK", Checks.NIL, 0);
        String skipTwo = "LET 0 NUM 4 WHILE SET 0 SUB VAR 0 NUM 1 SEQ IF SAME VAR 0 NUM 2 NEXT NIL HOST VAR 0";
        Checks.noted(Checks.gives(skipTwo, Checks.NIL, 0), 3, 1);
        Checks.throwsCode("WHILE THROW NUM 5 NIL", 5);
        Checks.throwsCode("WHILE NUM 1 THROW NUM 6", 6);
        // After BREAK the names mean what they meant around the loop.
        Checks.gives("LET 0 NUM 1 SEQ WHILE NUM 1 LET 0 NUM 2 BREAK VAR 0", Checks.INT, 1);
    }

    private static void loopsInLoops() {
        // A BREAK in the condition of the inner WHILE ends the outer one.
        Checks.gives("SEQ WHILE NUM 1 SEQ WHILE BREAK NIL HOST NUM 1 NUM 7", Checks.INT, 7);
        Checks.noted(Checks.compiledAndRun("WHILE NUM 1 SEQ WHILE BREAK NIL HOST NUM 1"));
        // A NEXT in it goes on with the outer condition.
        Checks.noted(Checks.gives("LET 0 NUM 2 WHILE SET 0 SUB HOST VAR 0 NUM 1 SEQ WHILE NEXT NIL HOST NUM 9",
            Checks.NIL, 0), 2, 1);
        // A BREAK in the F of the inner one ends that alone.
        Checks.noted(Checks.gives("LET 0 NUM 3 WHILE SET 0 SUB VAR 0 NUM 1 SEQ WHILE NUM 1 BREAK HOST VAR 0",
            Checks.NIL, 0), 2, 1);
    }

    private static void returns() {
        Checks.gives("RETURN NUM 3", Checks.INT, 3);
        Checks.gives("ADD NUM 1 RETURN NUM 3", Checks.INT, 3);
        Checks.noted(Checks.gives("SEQ RETURN NUM 3 HOST NUM 4", Checks.INT, 3));
        Checks.gives("ADD NUM 1 APP FN 0 SEQ RETURN VAR 0 NUM 9 NUM 5", Checks.INT, 6);
        Checks.gives("WHILE NUM 1 RETURN NUM 2", Checks.INT, 2);
        Checks.gives("ADD NUM 1 APP FN 0 WHILE NUM 1 RETURN VAR 0 NUM 5", Checks.INT, 6);
        // RETURN ends the innermost body alone.
        Checks.gives("APP FN 0 ADD NUM 10 APP FN 1 RETURN NUM 1 NIL NIL", Checks.INT, 11);
        Checks.gives("TRY 0 RETURN NUM 1 NUM 2", Checks.INT, 1);
        Checks.gives("RETURN RETURN NUM 1", Checks.INT, 1);
        Checks.throwsCode("RETURN THROW NUM 1", 1);
    }

    private static void throwsAndTries() {
        Checks.throwsCode("THROW NUM 3", 3);
        Checks.throwsCode("APP FN 0 THROW VAR 0 NUM 3", 3);
        Checks.throwsCode("THROW THROW NUM 3", 3);
        Checks.gives("TRY 0 NUM 1 NUM 2", Checks.INT, 1);
        Checks.gives("TRY 0 THROW NUM 1 ADD VAR 0 NUM 10", Checks.INT, 11);
        Checks.gives("TRY 0 DIV NUM 1 NUM 0 VAR 0", Checks.INT, -1);
        Checks.gives("TRY 0 APP FN 1 THROW VAR 1 NUM 7 VAR 0", Checks.INT, 7);
        Checks.gives("TRY 0 THROW NIL VAR 0", Checks.NIL, 0);
        Checks.throwsCode("TRY 0 THROW NUM 1 THROW ADD VAR 0 NUM 1", 2);
        Checks.gives("TRY 0 TRY 0 THROW NUM 1 THROW NUM 2 VAR 0", Checks.INT, 2);
        Checks.gives("TRY 0 SEQ TRY 1 THROW NUM 1 NIL THROW NUM 2 VAR 0", Checks.INT, 2);
        Checks.gives("LET 0 NUM 1 SEQ TRY 0 THROW NUM 5 SET 0 NUM 6 VAR 0", Checks.INT, 1);
        Checks.gives("LET 0 NUM 1 ADD TRY 0 LET 0 NUM 9 THROW NUM 5 VAR 0 VAR 0", Checks.INT, 6);
        Checks.gives("LET 0 TRY 1 THROW NUM 5 FN 2 SET 1 ADD VAR 1 NUM 1 SEQ APP VAR 0 NIL APP VAR 0 NIL",
            Checks.INT, 7);
        Checks.gives("SEQ WHILE NUM 1 TRY 0 BREAK NIL NUM 4", Checks.INT, 4);
        Checks.gives("SEQ WHILE NUM 1 TRY 0 THROW NIL BREAK NUM 4", Checks.INT, 4);
    }

    private static void finallys() {
        Checks.noted(Checks.gives("FINALLY HOST NUM 1 HOST NUM 2", Checks.INT, 1), 1, 2);
        Checks.noted(Checks.throwsCode("FINALLY THROW NUM 1 HOST NUM 2", 1), 2);
        Checks.noted(Checks.gives("FINALLY RETURN NUM 1 HOST NUM 2", Checks.INT, 1), 2);
        Checks.noted(Checks.gives("ADD NUM 1 APP FN 0 FINALLY RETURN NUM 1 HOST NUM 2 NIL", Checks.INT, 2), 2);
        Checks.noted(Checks.throwsCode("FINALLY FINALLY THROW NUM 1 HOST NUM 2 HOST NUM 3", 1), 2, 3);
        Checks.noted(Checks.gives("TRY 0 FINALLY THROW NUM 1 HOST NUM 2 HOST VAR 0", Checks.INT, 1), 2, 1);
        Checks.gives("LET 0 NUM 1 FINALLY VAR 0 SET 0 NUM 2", Checks.INT, 1);
        Checks.throwsIt("FINALLY THROW FN 0 NIL NUM 5", Checks.FUNCTION, 2);
        // A throw that is caught inside F does no harm to how E ended.
        Checks.throwsCode("FINALLY THROW NUM 1 TRY 0 THROW NUM 2 NIL", 1);
        Checks.gives("FINALLY RETURN NUM 1 WHILE NUM 1 BREAK", Checks.INT, 1);
        Checks.gives("FINALLY RETURN NUM 1 APP FN 0 RETURN NUM 2 NIL", Checks.INT, 1);
    }

    private static void finallysThatEndOtherwise() {
        Checks.throwsCode("FINALLY NUM 1 THROW NUM 2", 2);
        Checks.throwsCode("FINALLY THROW NUM 1 THROW NUM 2", 2);
        Checks.throwsCode("FINALLY RETURN NUM 1 THROW NUM 2", 2);
        Checks.gives("FINALLY NUM 1 RETURN NUM 2", Checks.INT, 2);
        Checks.gives("FINALLY THROW NUM 1 RETURN NUM 2", Checks.INT, 2);
        Checks.gives("FINALLY RETURN NUM 1 RETURN NUM 2", Checks.INT, 2);
        Checks.throwsCode("FINALLY NUM 1 HOST NUM -2", -2);
    }

    private static void finallysInLoops() {
        Checks.noted(Checks.gives("WHILE NUM 1 FINALLY BREAK HOST NUM 2", Checks.NIL, 0), 2);
        Checks.noted(Checks.gives("LET 0 NUM 3 WHILE SET 0 SUB VAR 0 NUM 1 FINALLY NEXT HOST VAR 0", Checks.NIL, 0), 2, 1);
        Checks.gives("SEQ WHILE NUM 1 FINALLY THROW NUM 1 BREAK NUM 4", Checks.INT, 4);
        Checks.gives("SEQ WHILE NUM 1 FINALLY RETURN NUM 1 BREAK NUM 4", Checks.INT, 4);
        Checks.gives("LET 0 NUM 3 SEQ WHILE SET 0 SUB VAR 0 NUM 1 FINALLY BREAK NEXT VAR 0", Checks.INT, 0);
        Checks.gives("LET 0 NUM 3 SEQ WHILE SET 0 SUB VAR 0 NUM 1 FINALLY NEXT BREAK VAR 0", Checks.INT, 2);
    }
}
