import java.io.IOException;
import java.lang.reflect.Method;
import java.util.Map;

/**
 * Whether each test that is named after a sentence quotes it as it stands in the document, and whether each sentence
 * of the promises, of the Terms and of paragraphs 2 to 5 stands in a test of its own.
 */
public final class SentencesTest {
    public static void main(String[] args) throws IOException {
        if (Sentences.hasDocument()) compare(Sentences.document());
        else System.out.println("../shared/DOC.md is not here: nothing is compared with it");
        Check.end("SentencesTest");
    }

    private static void compare(Map<String, String> document) {
        for (Class<?> tests : Sentences.CLASSES) {
            for (Method test : Sentences.testsOf(tests)) quoted(test, document.getOrDefault(Sentences.partOf(test), ""));
        }
        for (int promise = 1; promise <= 54; promise++) {
            String part = String.format("promise%02d", promise);
            String text = document.getOrDefault(part, "");
            // ahead of the sentences stands the call
            int call = text.indexOf("`:");
            Check.due(part + " is told", call > 0, true);
            tested(part, text.substring(call + 2));
        }
        tested("terms", document.getOrDefault("terms", ""));
        for (int paragraph = 2; paragraph <= 4; paragraph++) tested("paragraph" + paragraph, document.getOrDefault("paragraph" + paragraph, ""));
        tested("paragraph5", document.getOrDefault("paragraph5", "").split("Ahead of the calls")[0]);
    }

    private static void quoted(Method test, String text) {
        Check.due(test.getName() + " quotes: " + Sentences.wordsOf(test), text.contains(Sentences.wordsOf(test)), true);
    }

    private static void tested(String part, String text) {
        String untested = Sentences.untested(part, text);
        Check.due(part + " is told", text.isEmpty(), false);
        Check.due(part + ", without a test: " + untested, untested.isEmpty(), true);
    }
}
