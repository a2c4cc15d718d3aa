import java.nio.charset.StandardCharsets;
import java.nio.file.Files;
import java.nio.file.Path;

/**
 * The document from its first line to its last. Each test names the promise and the words of the
 * document that it holds the class to; words that don't stand there, and words of the document that no
 * test quotes, are faults too. The boundary cases stand in the classes named ..Bounds, what is left in
 * PlainSentences. Arguments: TokenBus.java, DOC.md.
 */
public final class DocumentTest {
    private DocumentTest() {
    }

    public static void main(String[] args) throws Exception {
        Check check = new Check();
        String path = args.length > 1 ? args[1] : "../shared/DOC.md";
        Sentences sentences = new Sentences(new String(Files.readAllBytes(Path.of(path)), StandardCharsets.UTF_8));
        check.is("the document has 28 promises", sentences.hasAllPromises(), true);
        Bounds bounds = new Bounds(check, sentences);
        new StationBounds(bounds).all();
        new LineBounds(bounds).all();
        new MessageBounds(bounds).all();
        new TokenBounds(bounds).all();
        new RingBounds(bounds).all();
        new LogBounds(bounds).all();
        new WhatIfBounds(bounds).all();
        new TextBounds(bounds).all();
        new StateBounds(bounds).all();
        new PlainSentences(bounds).all();
        for (int promise = 1; promise <= Sentences.PROMISES; promise++) {
            check.is("a test names promise " + promise, bounds.names(promise), true);
        }
        for (String sentence : sentences.untold()) {
            check.same("no test holds the class to", sentence, "");
        }
        check.end();
    }
}
