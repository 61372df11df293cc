import java.io.IOException;
import java.io.OutputStream;
import java.io.PrintStream;
import java.nio.file.Files;
import java.nio.file.Path;
import java.util.ArrayList;
import java.util.List;
import java.util.Set;
import java.util.TreeSet;

/**
 * Breaks the class as src/test/breaks.txt says, sentence by sentence: the test of the sentence must fail then.
 * There, # tells a sentence, @ words of the class behind which a break begins (if need be), - lines of the class
 * and + what stands in their place.
 */
final class BreaksTest {
    private static final Path CLASS = Path.of("src/main/java/TokenNet.java");
    private static final Path BREAKS = Path.of("src/test/breaks.txt");

    record Break(String sentence, String behind, String old, String other) { }

    private final Check check = new Check();
    private final String source;

    private BreaksTest(String source) {
        this.source = source;
    }

    public static void main(String[] args) throws IOException {
        BreaksTest test = new BreaksTest(Files.readString(CLASS));
        List<Break> breaks = read(Files.readAllLines(BREAKS));
        breaks.removeIf(one -> args.length > 0 && !one.sentence().contains(args[0]));
        test.check.about("breaks");
        if (args.length == 0) {
            test.everySentence(breaks);
        }
        if (test.allFit(breaks)) {
            for (String complaint : test.complaints(breaks)) {
                test.check.fail(complaint);
            }
            System.out.println(breaks.size() + " breaks");
        }
        test.check.end();
    }

    /** Of a class that is written otherwise these breaks tell nothing; they are left out then, which is no fault of it. */
    private boolean allFit(List<Break> breaks) {
        boolean isFit = true;
        for (Break one : breaks) {
            int at = place(one);
            if (at < 0) {
                System.out.println("not in the class: " + one);
                isFit = false;
            } else if (one.behind().isEmpty() && source.indexOf(one.old(), at + 1) >= 0) {
                System.out.println("twice in the class: " + one);
                isFit = false;
            }
        }
        if (!isFit) {
            System.out.println(BREAKS + " does not fit " + CLASS + ": no break is tried");
        }
        return isFit;
    }

    private int place(Break one) {
        int from = source.indexOf(one.behind());
        return from < 0 ? -1 : source.indexOf(one.old(), from);
    }

    /** What is wrong with these breaks; what the tests print of the broken class is left out. */
    private List<String> complaints(List<Break> breaks) {
        PrintStream out = System.out;
        System.setOut(new PrintStream(OutputStream.nullOutputStream()));
        List<String> complaints = breaks.parallelStream().map(this::complaint).filter(text -> !text.isEmpty()).toList();
        System.setOut(out);
        return complaints;
    }

    private static List<Break> read(List<String> lines) {
        List<Break> breaks = new ArrayList<>();
        String sentence = "";
        String behind = "";
        String old = "";
        String other = "";
        for (int i = 0; i <= lines.size(); i++) {
            String line = i < lines.size() ? lines.get(i) : "#";
            String rest = line.length() > 2 ? line.substring(2) : "";
            boolean goesOn = line.startsWith("+") || line.startsWith("-") && other.isEmpty();
            if (!goesOn && !old.isEmpty()) {
                breaks.add(new Break(sentence, behind, old, other));
                behind = "";
                old = "";
                other = "";
            }
            if (line.startsWith("#")) {
                sentence = rest;
            } else if (line.startsWith("@")) {
                behind = rest;
            } else if (line.startsWith("-")) {
                old += rest + "\n";
            } else if (line.startsWith("+")) {
                other += rest + "\n";
            }
        }
        return breaks;
    }

    private void everySentence(List<Break> breaks) {
        Set<String> broken = new TreeSet<>();
        for (Break one : breaks) {
            broken.add(one.sentence());
        }
        Set<String> names = new TreeSet<>();
        for (Sentences.Sentence sentence : Sentences.ofAll().all()) {
            names.add(sentence.name());
            if (!broken.contains(sentence.name())) {
                check.fail("no break of " + sentence.name());
            }
        }
        broken.removeAll(names);
        for (String name : broken) {
            check.fail("no sentence " + name);
        }
    }

    /** Empty if the test of the sentence fails by this break. */
    private String complaint(Break one) {
        int at = place(one);
        String broken = source.substring(0, at) + one.other() + source.substring(at + one.old().length());
        Compiled classes = new Compiled(broken);
        if (!classes.isRight()) {
            return "does not compile: " + one;
        }
        return classes.answer("Sentences", "wrong", one.sentence()) == 0 ? "is not noticed: " + one : "";
    }
}
