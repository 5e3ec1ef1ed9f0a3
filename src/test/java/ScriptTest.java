import java.io.IOException;
import java.nio.file.Files;
import java.nio.file.Path;

/** .ci/run passes if all tests pass, be there any under ../shared/tests or not, and fails if one of them fails. */
public final class ScriptTest {

    private static final String SCRIPT = ".ci/run";
    private static final String OWN = "main/src/test/java/";
    private static final String SHARED = "shared/tests/";

    private final Due due = new Due();
    private final Shell shell = new Shell();

    private ScriptTest() throws IOException {
    }

    public static void main(String[] args) throws IOException, InterruptedException {
        new ScriptTest().all();
    }

    private void all() throws IOException, InterruptedException {
        shell.write("main/src/main/java/Circuitfold.java", "public final class Circuitfold { }\n");
        shell.write("main/" + SCRIPT, Files.readString(Path.of(SCRIPT)));
        ends("without tests", 1);
        put(OWN, "FirstTest", "new Circuitfold();");
        ends("with the project and nothing beside it", 0);
        put(SHARED, "Runs", "new Circuitfold();");
        put(SHARED, "MoreRuns", "System.exit(0);");
        ends("with tests that pass", 0);
        due.is(true, shell.printed().contains("3 passed, 0 failed"));
        failing(OWN, "SecondTest");
        failing(SHARED, "Another");
        failing(SHARED, "Wrong");
        ends("with tests that pass again", 0);
        shell.remove();
        due.end("ScriptTest");
    }

    private void put(String place, String name, String body) throws IOException {
        shell.write(place + name + ".java", "public final class " + name + " {\n"
                + "    public static void main(String[] args) {\n        " + body + "\n    }\n}\n");
    }

    private void failing(String place, String name) throws IOException, InterruptedException {
        for (String body : new String[] {"System.exit(1);", "throw new RuntimeException();", "new Nothing();"}) {
            put(place, name, body);
            ends("with " + place + name + ": " + body, 1);
        }
        shell.delete(place + name + ".java");
    }

    private void ends(String what, int code) throws IOException, InterruptedException {
        due.about(SCRIPT + " " + what);
        due.is(code, shell.run("sh main/" + SCRIPT));
    }
}
