import java.io.IOException;
import java.nio.file.Files;
import java.nio.file.Path;
import java.util.regex.Matcher;
import java.util.regex.Pattern;

/** What README.md says under "Use" can be done as it stands there, and gives the answers that stand there. */
public final class ReadmeTest {

    private static final String PAGE = "README.md";
    private static final String PROGRAM = "src/main/java/Circuitfold.java";

    private ReadmeTest() {
    }

    public static void main(String[] args) throws IOException, InterruptedException {
        Due due = new Due();
        String page = Files.readString(Path.of(PAGE));
        due.about("the example of README.md");
        Shell shell = new Shell();
        shell.write(PROGRAM, Files.readString(Path.of(PROGRAM)));
        shell.write("Example.java", block(page, "java"));
        due.is(0, shell.run(block(page, "sh")));
        due.is(block(page, "text"), shell.printed());
        shell.remove();
        tests(due, page);
        due.end("ReadmeTest");
    }

    /** The lines that the page shows in the first block of a kind, none if there is no such block. */
    private static String block(String page, String kind) {
        Matcher block = Pattern.compile("(?s)\n```" + kind + "\n(.*?)```\n").matcher(page);
        return block.find() ? block.group(1) : "";
    }

    /** Each test is named on the page, and what is named there as one is there. */
    private static void tests(Due due, String page) throws IOException {
        due.about("the tests that README.md names");
        due.is(true, page.contains("\n    .ci/run\n"));
        try (var files = Files.newDirectoryStream(Path.of("src/test/java"), "*Test.java")) {
            for (Path file : files) {
                String name = file.getFileName().toString().replace(".java", "");
                due.is(name, page.contains("\n- `" + name + "`") ? name : "no " + name);
            }
        }
        Matcher named = Pattern.compile("\n- `(\\w+Test)`").matcher(page);
        while (named.find()) {
            due.is(true, Files.exists(Path.of("src/test/java", named.group(1) + ".java")));
        }
    }
}
