import java.io.IOException;
import java.lang.reflect.Method;
import java.nio.file.Files;
import java.nio.file.Path;

/** The tests and the document: every test says its words as they stand there, and no words there are without a test. */
public final class QuoteTest {
    private static final Class<?>[] TESTS = {TextTest.class, NowTest.class, TuesdayTest.class, MondayTest.class, PlanTest.class,
        NoteTest.class};
    private static final int PROMISES = 40;

    private static String squeezed(String text) {
        return text.replaceAll("\\s+", " ").trim();
    }

    /** The words of a promise behind its signature, or of the Terms (0). */
    private static String section(String document, int promise) {
        String head = promise == 0 ? "## Terms\n" : "## Promise " + promise + ":";
        int from = document.indexOf(head);
        if (from < 0) return "";
        int to = document.indexOf("\n## ", from + 3);
        String words = document.substring(document.indexOf('\n', from), to);
        if (promise > 0) words = words.substring(words.indexOf("`: ") + 3);
        return squeezed(words.replace("```text", " ").replace("```", " ").replaceAll("==== [0-9]\\.", " "));
    }

    private static void mark(Method test, String[] sections, boolean[][] held) {
        Says says = test.getAnnotation(Says.class);
        Check.due(test + " says its words", says != null, true);
        if (says == null) return;
        for (String words : says.value()) {
            String quote = squeezed(words);
            int at = sections[says.promise()].indexOf(quote);
            Check.due(test + " says what the document says: " + quote, at >= 0 && !quote.isEmpty(), true);
            for (int k = at; at >= 0 && k < at + quote.length(); k++) held[says.promise()][k] = true;
        }
    }

    private static void tellUnheld(int promise, String words, boolean[] held) {
        StringBuilder unheld = new StringBuilder();
        for (int k = 0; k <= words.length(); k++) {
            if (k < words.length() && !held[k]) {
                unheld.append(words.charAt(k));
                continue;
            }
            Check.due("promise " + promise + " (0: Terms) without a test: " + unheld, unheld.toString().matches(".*\\w.*"), false);
            unheld.setLength(0);
        }
    }

    public static void main(String[] args) throws IOException {
        String document = Files.readString(Path.of(System.getProperty("document", "../shared/DOC.md")));
        String[] sections = new String[PROMISES + 1];
        boolean[][] held = new boolean[PROMISES + 1][];
        for (int k = 0; k <= PROMISES; k++) {
            sections[k] = section(document, k);
            held[k] = new boolean[sections[k].length()];
            Check.due("words of promise " + k, sections[k].isEmpty(), false);
        }
        for (Class<?> tests : TESTS) {
            for (Method test : tests.getDeclaredMethods()) {
                boolean isTest = test.getParameterCount() == 0 && test.getReturnType() == void.class && !test.isSynthetic();
                if (isTest) mark(test, sections, held);
            }
        }
        for (int k = 0; k <= PROMISES; k++) tellUnheld(k, sections[k], held[k]);
        Check.end("QuoteTest");
    }
}
