import java.io.IOException;
import java.nio.file.Files;
import java.nio.file.Path;
import java.util.ArrayList;
import java.util.LinkedHashMap;
import java.util.List;
import java.util.Map;

/** The sentences of ../shared/DOC.md that stand in its "Terms" and its promises, by their sections. */
final class Document {
    final Map<String, List<String>> sections = new LinkedHashMap<>();
    final String text;

    Document(Path file) throws IOException {
        List<String> lines = Files.readAllLines(file);
        text = plain(String.join("\n", lines));
        String section = "";
        for (String line : lines) {
            if (line.startsWith("## ")) {
                section = line.substring(3);
            } else if (section.equals("Terms") || section.startsWith("Promise ")) {
                List<String> sentences = sections.computeIfAbsent(section, name -> new ArrayList<>());
                addSentences(sentences, line);
            }
        }
    }

    private static String plain(String text) {
        return text.replace("`", "");
    }

    /** What is said of the constants and of the face's order is left to FaceTest. */
    private static void addSentences(List<String> sentences, String line) {
        if (line.isEmpty() || line.startsWith("The constants") || line.startsWith("Ahead of")
                || line.matches("`[A-Z, 0-9=-]+`: .*")) {
            return;
        }
        if (line.startsWith("- ")) {
            sentences.add(plain(line.substring(2)));
            return;
        }
        for (String sentence : plain(line.replaceFirst("^`[^`]*`: ", "")).split("(?<=\\.) (?=[A-Z])")) {
            if (sentence.contains(" ")) {
                sentences.add(sentence);
            }
        }
    }
}
