import java.io.IOException;
import java.lang.reflect.InvocationTargetException;
import java.lang.reflect.Method;
import java.nio.file.Files;
import java.nio.file.Path;
import java.util.ArrayList;
import java.util.Comparator;
import java.util.LinkedHashMap;
import java.util.List;
import java.util.Map;
import java.util.regex.Matcher;
import java.util.regex.Pattern;

/**
 * Runs the tests that are named after a promise and a sentence of it: promise05_atMost60 and its like.
 * The part ahead of the _ tells where in the document the sentence stands; SentencesTest looks for it there.
 */
final class Sentences {
    static final Class<?>[] CLASSES = {BoundsOfTraysTest.class, BoundsOfTextsTest.class, BoundsOfFaultsTest.class,
        BoundsOfDeedsTest.class, BoundsOfWorthTest.class, BoundsOfNumbersTest.class, BoundsOfColouringsTest.class,
        BoundsOfSeasonsTest.class, BoundsOfStatusTest.class};

    private static final Path DOCUMENT = Path.of("..", "shared", "DOC.md");
    private static final Pattern NAME = Pattern.compile("(head|terms|paragraph[2-5]|promise[0-5][0-9])_[a-zA-Z0-9]+");
    private static final Pattern HEADING = Pattern.compile("## (What it is|The public face|Terms|Not promised|Promise ([0-9]+)):?"
        + "|==== ([2-5])\\.");

    private Sentences() {
    }

    static void run(Class<?> tests) {
        for (Method test : testsOf(tests)) {
            int before = Check.wrong();
            invoke(test);
            if (Check.wrong() > before) System.out.println("FAILED: " + test.getName() + ": \"" + wordsOf(test) + "\"");
        }
        Check.end(tests.getName());
    }

    private static void invoke(Method test) {
        try {
            test.invoke(null);
        } catch (InvocationTargetException thrown) {
            Check.due(test.getName() + " threw " + thrown.getCause(), false, true);
        } catch (IllegalAccessException hidden) {
            throw new IllegalStateException(hidden);
        }
    }

    static List<Method> testsOf(Class<?> tests) {
        List<Method> all = new ArrayList<>();
        for (Method method : tests.getDeclaredMethods()) {
            if (method.isAnnotationPresent(Sentence.class)) all.add(method);
        }
        all.sort(Comparator.comparing(Method::getName));
        return all;
    }

    static String wordsOf(Method test) {
        return test.getAnnotation(Sentence.class).value();
    }

    static String partOf(Method test) {
        Matcher matcher = NAME.matcher(test.getName());
        if (!matcher.matches()) throw new IllegalStateException("a test's name: " + test.getName());
        return matcher.group(1);
    }

    static boolean hasDocument() {
        return Files.isReadable(DOCUMENT);
    }

    /** The parts of the document by the names that the tests give them. */
    static Map<String, String> document() throws IOException {
        String text = Files.readString(DOCUMENT);
        String rest = text.substring(Math.max(0, text.indexOf("## What it is")));
        Map<String, String> parts = new LinkedHashMap<>();
        Matcher heading = HEADING.matcher(rest);
        String name = "";
        int from = 0;
        while (heading.find()) {
            parts.put(name, rest.substring(from, heading.start()).replaceAll("```(text)?", ""));
            from = heading.end();
            name = nameOf(heading);
        }
        parts.put(name, rest.substring(from).replaceAll("```", ""));
        return parts;
    }

    /** What of a part of the document stands in no test's sentence; what lies between two sentences is no word. */
    static String untested(String part, String text) {
        char[] rest = text.toCharArray();
        for (Class<?> tests : CLASSES) {
            for (Method test : testsOf(tests)) {
                if (partOf(test).equals(part)) blot(rest, text, wordsOf(test));
            }
        }
        return new String(rest).replaceAll("[^A-Za-z0-9]+", " ").trim();
    }

    private static void blot(char[] rest, String text, String words) {
        for (int at = text.indexOf(words); at >= 0; at = text.indexOf(words, at + 1)) {
            for (int i = at; i < at + words.length(); i++) rest[i] = ' ';
        }
    }

    private static String nameOf(Matcher heading) {
        if (heading.group(3) != null) return "paragraph" + heading.group(3);
        if (heading.group(2) != null) return String.format("promise%02d", Integer.parseInt(heading.group(2)));
        if (heading.group(1).equals("What it is")) return "head";
        return heading.group(1).toLowerCase();
    }
}
