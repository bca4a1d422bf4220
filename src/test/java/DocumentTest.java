import java.io.File;
import java.io.IOException;
import java.lang.reflect.Method;
import java.util.ArrayList;
import java.util.Arrays;
import java.util.HashMap;
import java.util.List;
import java.util.Map;
import java.util.Set;
import java.util.regex.Matcher;
import java.util.regex.Pattern;

/** Each edge test quotes the document rightly, and no sentence of its terms and promises is left without one. */
public final class DocumentTest {
    /** Sections that promise nothing by themselves; the face is looked at by LanguageTest. */
    private static final Set<String> LEFT_OUT = Set.of("", "armTolls", "thePublicFace", "notPromised");

    /** What names no edge: how the arm is called, and how the interface is ordered. */
    private static final Pattern NO_EDGE = Pattern.compile(
        "A robot arm that pays.*|; what later calls answer is free\\.|The constants: |Ahead of the calls .*");

    public static void main(String[] args) throws IOException, ClassNotFoundException {
        Document document = new Document();
        Map<String, List<String>> quotes = quotesOf(document);
        for (String section : document.sections.keySet()) {
            if (!LEFT_OUT.contains(section)) {
                noSentenceIsLeft(section, document.sections.get(section), quotes.getOrDefault(section, List.of()));
            }
        }
        Check.end("DocumentTest");
    }

    private static Map<String, List<String>> quotesOf(Document document) throws ClassNotFoundException {
        Map<String, List<String>> quotes = new HashMap<>();
        String[] files = new File("src/test/java").list();
        Arrays.sort(files);
        for (String file : files) {
            if (file.endsWith("EdgesTest.java")) {
                for (Method test : Edges.testsOf(Class.forName(file.replace(".java", "")))) {
                    String quote = test.getAnnotation(Edge.class).value();
                    String section = document.sections.getOrDefault(Edges.sectionOf(test), "");
                    Check.due("whether the document says what " + test.getName() + " quotes: " + quote,
                        section.contains(quote) ? 1 : 0, 1);
                    quotes.computeIfAbsent(Edges.sectionOf(test), key -> new ArrayList<>()).add(quote);
                }
            }
        }
        return quotes;
    }

    private static void noSentenceIsLeft(String name, String text, List<String> quotes) {
        StringBuilder left = new StringBuilder(NO_EDGE.matcher(text).replaceAll("\n"));
        String whole = left.toString();
        for (String quote : quotes) {
            for (int at = whole.indexOf(quote); at >= 0; at = whole.indexOf(quote, at + 1)) {
                left.replace(at, at + quote.length(), "\n".repeat(quote.length()));
            }
        }
        Matcher rest = Pattern.compile("[^\n]*\\w[^\n]*").matcher(left);
        Check.dueText("what no edge test of " + name + " quotes", rest.find() ? rest.group().trim() : "", "");
    }
}
