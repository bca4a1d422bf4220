import java.io.IOException;
import java.nio.file.Files;
import java.nio.file.Path;
import java.util.LinkedHashMap;
import java.util.Map;

/** The document's sections, by names like inputText and promise12; without ` and with ' for ". */
final class Document {
    final Map<String, String> sections = new LinkedHashMap<>();

    Document() throws IOException {
        String name = "";
        for (String line : Files.readAllLines(Path.of("../shared/DOC.md"))) {
            if (line.startsWith("#")) {
                name = nameOf(line.replaceAll("^#+ ", ""));
            } else {
                sections.merge(name, plain(line) + "\n", String::concat);
            }
        }
    }

    /** "Input text" is inputText, "Promise 12: firstError" is promise12. */
    private static String nameOf(String heading) {
        StringBuilder name = new StringBuilder();
        for (String word : heading.replaceAll(":.*", "").split(" ")) {
            name.append(Character.toUpperCase(word.charAt(0))).append(word.substring(1));
        }
        return Character.toLowerCase(name.charAt(0)) + name.substring(1);
    }

    /** Without the signature that begins a promise: LanguageTest looks at the face. */
    private static String plain(String line) {
        return line.replaceAll("^`[^`]*\\(.*?`: ", "").replace("`", "").replace('"', '\'');
    }
}
