import java.io.IOException;
import java.nio.file.Files;
import java.nio.file.Path;
import java.util.ArrayList;
import java.util.HashMap;
import java.util.HashSet;
import java.util.List;
import java.util.Map;
import java.util.Set;
import java.util.stream.Stream;

/**
 * Runs src/test/sentences/*.txt: there each sentence of the document (after ">") has a run of calls on a new sheet.
 * After each call that throws, a sheet with that call and one without it must answer everything alike.
 */
final class SentencesTest {
    private static final int MOST_CALLS = 512;
    private static final Path TEXTS = Path.of("src/test/sentences");
    private static final Path DOCUMENT = Path.of("../shared/DOC.md");

    private final Map<String, Set<String>> tested = new HashMap<>();
    private TakeoffSheet sheet = new TakeoffSheet();
    private List<String> kept = new ArrayList<>();
    private String section = "";
    private String place = "";
    private int right = 0;
    private int wrong = 0;

    public static void main(String[] args) throws IOException {
        SentencesTest test = new SentencesTest();
        List<Path> files;
        try (Stream<Path> found = Files.list(TEXTS)) {
            files = found.sorted().toList();
        }
        for (Path file : files) {
            test.run(file);
        }
        if (Files.exists(DOCUMENT)) {
            test.compareWith(new Document(DOCUMENT));
        }
        System.out.println("SentencesTest: " + test.right + " answers as due, " + test.wrong + " not");
        if (test.wrong != 0 || test.right == 0) {
            System.exit(1);
        }
    }

    private void tell(String what, String want, String got) {
        if (got.equals(want)) {
            right++;
        } else {
            wrong++;
            System.out.println("wrong: " + place + ": " + what + ": " + got + ", due is: " + want);
        }
    }

    private void run(Path file) throws IOException {
        List<String> lines = Files.readAllLines(file);
        for (int i = 0; i < lines.size(); i++) {
            place = file.getFileName() + ":" + (i + 1);
            runLine(lines.get(i).strip());
        }
    }

    private void runLine(String line) {
        if (line.startsWith("# ")) {
            section = line.substring(2);
        } else if (line.startsWith("> ")) {
            tested.computeIfAbsent(section, name -> new HashSet<>()).add(line.substring(2));
            sheet = new TakeoffSheet();
            kept = new ArrayList<>();
        } else if (!line.isEmpty() && !line.startsWith("//")) {
            runCalls(line.split(" = "));
        }
    }

    /** "each = x" says what each call answers, "= x" what the last one answers; the others may not throw. */
    private void runCalls(String[] callsAndAnswer) {
        boolean each = callsAndAnswer[0].endsWith(" each");
        List<String> calls = Calls.of(callsAndAnswer[0].replaceFirst(" each$", ""));
        for (int i = 0; i < calls.size(); i++) {
            String call = calls.get(i);
            String answer = Calls.answer(sheet, call);
            if (callsAndAnswer.length == 2 && (each || i == calls.size() - 1)) {
                tell(call, callsAndAnswer[1], answer);
            } else {
                tell(call + " throws", "false", "" + Calls.isThrown(answer));
            }
            if (Calls.isThrown(answer)) {
                changesNothing(call);
            } else {
                kept.add(call);
            }
        }
    }

    private void changesNothing(String call) {
        TakeoffSheet without = again();
        TakeoffSheet with = again();
        Calls.answer(with, call);
        List<String> questions = questions(without.items());
        tell("calls of the sheet are few enough", "true", "" + (kept.size() + questions.size() + 2 <= MOST_CALLS));
        for (String question : questions) {
            String want = Calls.answer(without, question);
            tell(question + " after a " + call + " that threw", want, Calls.answer(with, question));
        }
    }

    private TakeoffSheet again() {
        TakeoffSheet again = new TakeoffSheet();
        for (String call : kept) {
            Calls.answer(again, call);
        }
        return again;
    }

    /** First what only asks, then what sets and tells what was before, at last where the drawing may go on. */
    private static List<String> questions(int items) {
        List<String> questions = new ArrayList<>(List.of("items", "area", "areaByStrips", "netArea", "total", "worth",
                "due", "claimed", "limit 0", "netArea", "opening 1 1", "netArea", "claim", "claimed", "retention 0",
                "price LABOUR 3", "price PLANT 4", "price MATERIAL 5"));
        for (int rate = 0; rate <= 12; rate++) {
            questions.add("rateOf " + rate);
        }
        for (int item = 0; item <= items; item++) {
            questions.addAll(Calls.of("quantity #; sum #; dearest #; done # 100; vary # 1".replace("#", "" + item)));
        }
        questions.addAll(Calls.of("worth; rate 47 48 49; heading NONE; leaf NONE 0 0; take 0 1"));
        for (int steps = 40; steps > 0; steps--) {
            questions.addAll(Calls.of("draw E# N# W# S#".replace("#", "" + steps)));
        }
        questions.addAll(List.of("area", "areaByStrips"));
        return questions;
    }

    private void compareWith(Document document) {
        for (String part : document.sections.keySet()) {
            place = part;
            for (String sentence : document.sections.get(part)) {
                boolean known = tested.getOrDefault(part, Set.of()).contains(sentence);
                tell("has a test: " + sentence, "true", "" + known);
            }
        }
        for (Set<String> sentences : tested.values()) {
            for (String sentence : sentences) {
                tell("stands in the document: " + sentence, "true", "" + document.text.contains(sentence));
            }
        }
    }
}
