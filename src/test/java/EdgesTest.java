import java.io.IOException;
import java.nio.file.Files;
import java.nio.file.Path;
import java.util.Set;
import java.util.TreeSet;
import java.util.regex.Matcher;
import java.util.regex.Pattern;

/** Every sentence of the document's terms and promises has a test that names it, at its boundary cases. */
public final class EdgesTest {

    private static final String DOCUMENT = "../shared/DOC.md";

    private EdgesTest() {
    }

    public static void main(String[] args) throws IOException {
        Due due = new Due();
        Edges[] parts = {
            new GivenEdges(due), new MadeEdges(due), new FaceEdges(due),
            new LikeEdges(due), new BoundEdges(due), new CountEdges(due),
            new TermEdges(due),
        };
        for (Edges part : parts) {
            part.all();
        }
        Set<String> tested = new TreeSet<>(due.tested());
        Set<String> told = sentences(Files.readString(Path.of(DOCUMENT)));
        due.about("sentences that are told and tested");
        for (String sentence : told) {
            due.is(sentence, tested.contains(sentence) ? sentence : "no test");
        }
        for (String sentence : tested) {
            due.is(sentence, told.contains(sentence) ? sentence : "no such sentence");
        }
        due.end("EdgesTest");
    }

    /** Each with the number of its promise, those of the terms with 0. */
    private static Set<String> sentences(String document) {
        Set<String> sentences = new TreeSet<>();
        String terms = document.substring(document.indexOf("## Terms"), document.indexOf("## Promise 1:"));
        for (String paragraph : terms.substring("## Terms".length()).split("\n\n")) {
            for (String sentence : paragraph.replace('\n', ' ').trim().split("(?<=\\.) ")) {
                if (sentence.contains(" ")) {
                    sentences.add("0 " + sentence);
                }
            }
        }
        Matcher promise = Pattern.compile("(?s)## Promise (\\d+): .*?\n(.*?)(?=\n## )").matcher(document);
        while (promise.find()) {
            for (String line : promise.group(2).split("\n\n|\n(?=- )")) {
                String sentence = line.replace('\n', ' ').trim().replaceFirst("^`[^`]*`: ", "");
                if (!sentence.isEmpty()) {
                    sentences.add(promise.group(1) + " " + sentence);
                }
            }
        }
        return sentences;
    }
}
