import java.io.IOException;
import java.nio.file.Path;

/**
 * Every sentence of 'Terms' and of promises 1 to 38 has a test of its own that names it; a word of the document that no
 * test is for, and a sentence that is not in it, are faults too.
 */
final class EdgesTest {
    public static void main(String[] args) throws IOException {
        Sentences sentences = new Sentences(Path.of(System.getProperty("document", "../shared/DOC.md")));
        Edges[] groups = {new EdgesOfTable(sentences), new EdgesOfMinutes(sentences), new EdgesOfTexts(sentences),
            new EdgesOfAnswers(sentences), new EdgesOfThought(sentences), new EdgesOfPast(sentences)};
        // No call shows a plain quotient: / of THE LAW goes towards 0, FULL by 3 upwards, and both have their tests.
        sentences.take(0, "Quotients go downwards.");
        int tests = 0;
        int wrong = 0;
        for (Edges group : groups) {
            group.all();
            tests += group.tests();
            wrong += group.wrong();
        }
        for (String words : sentences.left()) {
            System.out.println("no test is for " + words);
            wrong++;
        }
        if (sentences.promises() != 38) {
            System.out.println("promises in the document: " + sentences.promises());
            wrong++;
        }
        System.out.println("EdgesTest: " + tests + " sentences, " + wrong + " wrong");
        if (wrong != 0) {
            System.exit(1);
        }
    }
}
