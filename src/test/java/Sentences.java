import java.util.ArrayList;
import java.util.List;

/** Sentences of the document that name a boundary case, each with a test of its own. */
final class Sentences {
    interface Test {
        void run(Check check);
    }

    record Sentence(String part, String words, Test test) {
        String name() {
            return part + " " + words;
        }

        /** How many answers are not as due. */
        int run() {
            Check check = new Check();
            check.about(name());
            try {
                test.run(check);
            } catch (RuntimeException thrown) {
                check.fail("a call threw " + thrown);
            }
            return check.wrong();
        }
    }

    private final List<Sentence> all = new ArrayList<>();
    private String part = "";

    /** Where in the document the sentences that follow stand: the words that begin that part of it. */
    void of(String beginning) {
        part = beginning;
    }

    void holds(String words, Test test) {
        all.add(new Sentence(part, words, test));
    }

    List<Sentence> all() {
        return all;
    }

    static Sentences ofAll() {
        Sentences sentences = new Sentences();
        EdgesOfTokens.tell(sentences);
        EdgesOfTexts.tell(sentences);
        EdgesOfFaults.tell(sentences);
        EdgesOfGoing.tell(sentences);
        EdgesOfWalks.tell(sentences);
        EdgesOfSums.tell(sentences);
        EdgesOfAnswers.tell(sentences);
        return sentences;
    }

    /** How many answers are not as due where the sentence of this name is tested. */
    static int wrong(String name) {
        for (Sentence sentence : ofAll().all) {
            if (sentence.name().equals(name)) {
                return sentence.run();
            }
        }
        throw new IllegalArgumentException("no sentence: " + name);
    }
}
