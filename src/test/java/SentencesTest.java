import java.util.Map;

/** Whether each sentence of the promises, of the Terms and of paragraphs 2 to 5 stands in a test of its own. */
public final class SentencesTest {
    public static void main(String[] args) {
        Map<String, String> document = Sentences.document();
        for (int promise = 1; promise <= 54; promise++) {
            String part = String.format("promise%02d", promise);
            String text = document.getOrDefault(part, "");
            // ahead of the sentences stands the call
            int call = text.indexOf("`:");
            Check.due(part + " is told", call > 0, true);
            tested(part, text.substring(call + 2));
        }
        tested("terms", document.get("terms"));
        for (int paragraph = 2; paragraph <= 4; paragraph++) tested("paragraph" + paragraph, document.get("paragraph" + paragraph));
        String last = document.get("paragraph5");
        tested("paragraph5", last.substring(0, last.indexOf("Ahead of the calls")));
        Check.end("SentencesTest");
    }

    private static void tested(String part, String text) {
        String untested = Sentences.untested(part, text);
        Check.due(part + ", without a test: " + untested, untested.isEmpty(), true);
    }
}
