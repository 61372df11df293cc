import java.io.IOException;
import java.nio.file.Files;
import java.nio.file.Path;
import java.util.HashSet;
import java.util.Set;
import java.util.TreeSet;

/** Runs the test of each sentence that names a boundary case; the sentence must stand in the document. */
final class EdgesTest {
    private static final String[] OTHER_PARTS = {
        "## What it is", "## The public face", "==== 1", "==== 2", "==== 3", "==== 4", "Answers:", "Said once more.",
        "The constants:", "## Not promised",
    };

    public static void main(String[] args) throws IOException {
        String document = Files.readString(Path.of("../shared/DOC.md"));
        Check check = new Check();
        check.about("the sentences");
        Set<String> names = new HashSet<>();
        Set<String> parts = new TreeSet<>();
        int failed = 0;
        for (Sentences.Sentence sentence : Sentences.ofAll().all()) {
            if (!names.add(sentence.name())) {
                check.fail("twice: " + sentence.name());
            }
            parts.add(sentence.part());
            if (!plain(part(document, sentence.part())).contains(plain(sentence.words()))) {
                check.fail("not in the document: " + sentence.name());
            }
            failed += sentence.run() > 0 ? 1 : 0;
        }
        for (int promise = 1; promise <= 33; promise++) {
            if (!parts.contains("## Promise " + promise + ":")) {
                check.fail("no sentence of promise " + promise);
            }
        }
        check.due("sentences that do not hold", failed, 0);
        System.out.println(names.size() + " sentences");
        check.end();
    }

    private static String plain(String text) {
        return text.replaceAll("\\s+", " ").trim();
    }

    /** What stands from these words on until another part of the document begins. */
    private static String part(String document, String beginning) {
        int from = document.indexOf(beginning);
        if (from < 0) {
            return "";
        }
        int to = document.length();
        for (String other : OTHER_PARTS) {
            to = nearer(document, other, from, to);
        }
        return document.substring(from, nearer(document, "## Promise ", from, to));
    }

    private static int nearer(String document, String other, int from, int to) {
        int at = document.indexOf(other, from + 1);
        return at >= 0 && at < to ? at : to;
    }
}
