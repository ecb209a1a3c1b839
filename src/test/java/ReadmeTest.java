import java.io.IOException;
import java.nio.file.Files;
import java.nio.file.Path;

/** The examples of README.md: they stand here line by line, and answer what README.md says. */
public final class ReadmeTest {
    public static void main(String[] args) throws IOException {
        addition();
        generator();
        sameLines();
        Checks.end();
    }

    private static void addition() {
        ScriptBench bench = new ScriptBench();
        bench.token(26, 0);                        // HOST
        bench.token(7, 0);                         //   ADD
        bench.token(0, 2);                         //     NUM 2
        bench.token(0, 3);                         //     NUM 3
        int compiled = bench.compile();            // OK; else place() says which token is wrong
        int how = bench.run(600);                  // VALUE, after at most 600 steps
        int sort = bench.sort();                   // 1: an INT
        long number = bench.number();              // 5
        int steps = bench.steps();                 // 4
        long told = bench.host(0, 1);              // 5: what the host was told first

        Checks.due("compile", compiled, ScriptBench.OK);
        Checks.due("run", how, ScriptBench.VALUE);
        Checks.due("sort", sort, 1);
        Checks.due("number", number, 5);
        Checks.due("steps", steps, 4);
        Checks.due("host", told, 5);
    }

    private static void generator() {
        ScriptBench bench = new ScriptBench();
        int[] script = {
            4, 0,                                  // LET 0
            6, 0, 5, 1,                            //   APP FN 1
            21, 0,                                 //     FINALLY
            22, 0, 2, 1,                           //       YIELD VAR 1
            26, 0, 0, 9,                           //       HOST NUM 9
            0, 7,                                  //     NUM 7
            15, 0,                                 //   SEQ
            26, 0, 23, 0, 2, 0, 1, 0,              //     HOST RESUME VAR 0 NIL
            25, 0, 2, 0                            //     CLOSE VAR 0
        };
        for (int i = 0; i < script.length; i += 2) {
            bench.token(script[i], script[i + 1]); // kind, operand
        }
        int compiled = bench.compile();            // OK
        int generatorFns = bench.info(1);          // 1
        int how = bench.run(12);                   // LONG: CLOSE has not begun
        long given = bench.host(0, 1);             // 7: what the generator gave
        int state = bench.generator(0);            // 1: it WAITS
        int waitsAt = bench.waits(0);              // 4: at this token
        int howAnew = bench.run(600);              // VALUE: from the first token on again
        int sort = bench.sort();                   // 0: NIL, as CLOSE's value is
        long noted = bench.host(-1, 0);            // 2: so many were NOTED
        long last = bench.host(1, 1);              // 9: by FINALLY, however its YIELD ended
        int stateThen = bench.generator(0);        // 3: it has ENDED

        Checks.due("compile", compiled, ScriptBench.OK);
        Checks.due("info 1", generatorFns, 1);
        Checks.due("run 12", how, ScriptBench.LONG);
        Checks.due("host 0", given, 7);
        Checks.due("generator after 12 steps", state, 1);
        Checks.due("waits after 12 steps", waitsAt, 4);
        Checks.due("run 600", howAnew, ScriptBench.VALUE);
        Checks.due("sort", sort, 0);
        Checks.due("host -1", noted, 2);
        Checks.due("host 1", last, 9);
        Checks.due("generator", stateThen, 3);
    }

    private static void sameLines() throws IOException {
        String here = Files.readString(Path.of("src/test/java/ReadmeTest.java"));
        boolean inExample = false;
        int lines = 0;
        for (String line : Files.readAllLines(Path.of("README.md"))) {
            if (line.startsWith("```")) {
                inExample = line.equals("```java");
            } else if (inExample) {
                lines++;
                Checks.due("this line of README.md stands in its test: " + line, here.contains(line), true);
            }
        }
        Checks.due("README.md has examples", lines > 30, true);
    }
}
