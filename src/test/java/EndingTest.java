/**
 * "If one ends otherwise than with a value, the token ends in the same way": for each place in each
 * kind of token, an operand that throws, BREAKs, goes on with NEXT, RETURNs, or ends by CLOSING.
 */
public final class EndingTest {
    // The operand that ends otherwise stands at @; name 0 is bound around it. Behind the colon stands
    // what must have been NOTED: 1 and 0 before it, 2 behind it; 8 stands where nothing is worked out.
    private static final String[] PLACES = {
        "SET 0 @ :",
        "LET 1 @ HOST NUM 8 :",
        "LET 1 HOST NUM 1 @ : 1",
        "IF @ HOST NUM 8 HOST NUM 8 :",
        "IF HOST NUM 1 @ HOST NUM 8 : 1",
        "IF HOST NUM 0 HOST NUM 8 @ : 0",
        "WHILE @ HOST NUM 8 :",
        "WHILE SEQ HOST NUM 1 @ HOST NUM 8 : 1",
        "RETURN @ :",
        "THROW @ :",
        "DONE @ :",
        "CLOSE @ :",
        "HOST @ :",
        "TRY 1 THROW HOST NUM 1 @ : 1",
        "FINALLY HOST NUM 1 @ : 1",
        "FINALLY @ HOST NUM 2 : 2",
        "FINALLY THROW HOST NUM 1 @ : 1",
        "FINALLY RETURN HOST NUM 1 @ : 1",
        "FINALLY FINALLY @ HOST NUM 1 HOST NUM 2 : 1 2",
    };
    private static final String[] WITH_TWO = {"APP", "ADD", "SUB", "MUL", "DIV", "LESS", "SAME", "SEQ", "RESUME"};

    public static void main(String[] args) {
        for (String place : PLACES) {
            allEndings(place);
        }
        for (String kind : WITH_TWO) {
            allEndings(kind + " @ HOST NUM 8 :");
            allEndings(kind + " HOST NUM 1 @ : 1");
        }
        // TRY catches what E throws, and nothing else; an F that is not needed is not worked out.
        notThrowing("TRY 1 @ HOST NUM 8 :");
        // So does the F of a WHILE that throws or RETURNs.
        throwing("WHILE HOST NUM 1 @ : 1");
        returning("WHILE HOST NUM 1 @ : 1");
        closing("WHILE HOST NUM 1 @ : 1");
        yields();
        bodyOfFn();
        failedOperandsLeaveGeneratorsAlone();
        Checks.end();
    }

    private static void allEndings(String place) {
        throwing(place);
        notThrowing(place);
    }

    private static void notThrowing(String place) {
        returning(place);
        breaking(place);
        goingOn(place);
        closing(place);
    }

    private static String with(String place, String operand) {
        return place.substring(0, place.indexOf(':')).trim().replace("@", operand);
    }

    private static void notedAsSaid(ScriptBench bench, String place) {
        String[] words = place.substring(place.indexOf(':') + 1).trim().split(" ");
        long[] numbers = new long[words[0].isEmpty() ? 0 : words.length];
        for (int n = 0; n < numbers.length; n++) {
            numbers[n] = Long.parseLong(words[n]);
        }
        Checks.noted(bench, numbers);
    }

    private static void throwing(String place) {
        notedAsSaid(Checks.throwsCode("LET 0 NIL " + with(place, "THROW NUM 9"), 9), place);
        notedAsSaid(Checks.throwsIt("LET 0 NIL " + with(place, "THROW NIL"), Checks.NIL, 0), place);
    }

    private static void returning(String place) {
        notedAsSaid(Checks.gives("LET 0 NIL " + with(place, "RETURN NUM 9"), Checks.INT, 9), place);
        String inBody = "LET 0 NIL ADD NUM 1 APP FN 5 " + with(place, "RETURN NUM 9") + " NIL";
        notedAsSaid(Checks.gives(inBody, Checks.INT, 10), place);
    }

    private static void breaking(String place) {
        String inLoop = "LET 0 NIL SEQ WHILE NUM 1 " + with(place, "BREAK") + " NUM 7";
        notedAsSaid(Checks.gives(inLoop, Checks.INT, 7), place);
    }

    private static void goingOn(String place) {
        String inOneRound = "LET 0 NIL LET 5 NUM 2 WHILE SET 5 SUB VAR 5 NUM 1 " + with(place, "NEXT");
        notedAsSaid(Checks.gives(inOneRound, Checks.NIL, 0), place);
    }

    private static void closing(String place) {
        String closed = "LET 0 NIL LET 4 APP FN 5 SEQ " + with(place, "YIELD NIL") + " HOST NUM 8 NIL "
            + "SEQ RESUME VAR 4 NIL CLOSE VAR 4";
        ScriptBench bench = Checks.gives(closed, Checks.NIL, 0);
        notedAsSaid(bench, place);
        Checks.due("ENDED: " + closed, bench.generator(0), 3);
    }

    /** A YIELD whose E ends otherwise does not wait. */
    private static void yields() {
        ScriptBench bench = Checks.throwsCode("LET 0 APP FN 1 YIELD THROW NUM 9 NIL RESUME VAR 0 NIL", 9);
        Checks.due("it threw", bench.generator(0), 3);
        bench = Checks.gives("LET 0 APP FN 1 YIELD RETURN NUM 9 NIL RESUME VAR 0 NIL", Checks.INT, 9);
        Checks.due("it RETURNed", bench.generator(0), 3);
        bench = Checks.gives("LET 0 APP FN 1 SEQ WHILE NUM 1 YIELD BREAK NUM 9 NIL RESUME VAR 0 NIL", Checks.INT, 9);
        Checks.due("it went on behind the WHILE", bench.generator(0), 3);
        bench = Checks.gives("LET 0 APP FN 1 WHILE VAR 1 SEQ SET 1 NIL YIELD NEXT NUM 9 RESUME VAR 0 NIL", Checks.NIL, 0);
        Checks.due("it went on with E", bench.generator(0), 3);
        bench = Checks.gives("LET 0 APP FN 1 YIELD YIELD NUM 9 NIL SEQ RESUME VAR 0 NIL CLOSE VAR 0", Checks.NIL, 0);
        Checks.due("both YIELDs ended by CLOSING", bench.generator(0), 3);
    }

    /** Only APP works a body out, so what stands in it ends nothing before. */
    private static void bodyOfFn() {
        Checks.gives("FN 0 THROW NUM 9", Checks.FUNCTION, 0);
        Checks.gives("SEQ FN 0 RETURN NUM 9 NUM 1", Checks.INT, 1);
        Checks.noted(Checks.gives("FN 0 HOST NUM 8", Checks.FUNCTION, 0));
    }

    private static void failedOperandsLeaveGeneratorsAlone() {
        String made = "LET 0 APP FN 1 SEQ YIELD NIL NIL NIL ";
        ScriptBench bench = Checks.throwsCode(made + "RESUME VAR 0 THROW NUM 9", 9);
        Checks.due("not resumed: it has NOT BEGUN", bench.generator(0), 0);
        bench = Checks.throwsCode(made + "SEQ RESUME VAR 0 NIL RESUME VAR 0 THROW NUM 9", 9);
        Checks.due("not resumed: it WAITS", bench.generator(0), 1);
        bench = Checks.throwsCode(made + "SEQ RESUME VAR 0 NIL CLOSE SEQ VAR 0 THROW NUM 9", 9);
        Checks.due("not closed: it WAITS", bench.generator(0), 1);
        bench = Checks.throwsCode("APP FN 1 YIELD NIL THROW NUM 9", 9);
        Checks.due("not made", bench.generator(0), -1);
    }
}
