import java.io.IOException;
import java.nio.file.Files;
import java.nio.file.Path;
import java.util.ArrayList;
import java.util.HashSet;
import java.util.LinkedHashMap;
import java.util.List;
import java.util.Map;
import java.util.Set;

/**
 * Holds the sentences of the document against the tests: each one that is tested stands there word by
 * word, each test makes a check, and at the end no sentence is left without a test of its own.
 */
final class Ledger {
    private final Map<String, List<String>> untested = new LinkedHashMap<>();
    private final Set<String> tested = new HashSet<>();
    private final Checks checks = new Checks();
    private String section = "";
    private String sentence = "";
    private int checksBefore = 0;

    Ledger(Path document) throws IOException {
        String text = Files.readString(document);
        for (String part : text.split("(?m)^#+ ")) {
            String[] headingAndRest = part.split("\n", 2);
            if (headingAndRest.length == 2) {
                untested.put(headingAndRest[0].replaceFirst(":.*", "").strip(), sentences(headingAndRest[1]));
            }
        }
    }

    // A line of code and a point of a list count as a sentence each.
    private static List<String> sentences(String text) {
        List<String> found = new ArrayList<>();
        String[] proseAndCode = text.split("```(java)?");
        for (int part = 0; part < proseAndCode.length; part++) {
            boolean isCode = part % 2 == 1;
            for (String paragraph : proseAndCode[part].split(isCode ? "\n" : "\n\n|\n(?=- )")) {
                String line = paragraph.replaceAll("\\s+", " ").strip().replaceFirst("^`(int |Twin)[^`]*`: ", "");
                for (String one : isCode ? new String[] {line} : line.split("(?<=\\.) (?=[A-Z])")) {
                    if (!one.isEmpty()) {
                        found.add(one);
                    }
                }
            }
        }
        return found;
    }

    void section(String heading) {
        section = heading;
    }

    /** The checks from here on, up to the next sentence, test this one. */
    void sentence(String words) {
        endSentence();
        sentence = tested.add(section + words) ? words : "2: " + words;
        boolean stands = untested.getOrDefault(section, new ArrayList<>()).remove(words);
        due("stands in the document, and has no test yet", stands, true);
        checksBefore = checks.made();
    }

    private void endSentence() {
        if (!sentence.isEmpty() && checks.made() == checksBefore) {
            due("has a check", false, true);
        }
    }

    void due(String what, Object got, Object want) {
        checks.due(section + ", \"" + sentence + "\": " + what, got, want);
    }

    /** These sentences ask for nothing that a call could show. */
    void leaveOut(String beginning) {
        untested.getOrDefault(section, new ArrayList<>()).removeIf(words -> words.startsWith(beginning));
    }

    void end(String name) {
        endSentence();
        untested.forEach((heading, left) -> checks.due(heading + ": sentences without a test", left, List.of()));
        checks.end(name);
    }
}
