import java.io.IOException;
import java.nio.file.Files;
import java.nio.file.Path;
import java.util.LinkedHashMap;
import java.util.Map;

/**
 * The sentences of the document that tests stand for. A test opens a sentence, word
 * for word as the document has it, and then tells each answer that is due by it. At
 * the end no word of the document may be left that no test has opened.
 */
final class Sentences {
    private static final Path DOCUMENT = Path.of("../shared/DOC.md");
    private static final int MOST_PRINTED = 40;

    /** By section, then by the words: how many answers were seen to. */
    private static final Map<String, Map<String, Integer>> OPENED = new LinkedHashMap<>();

    private static String section = "";
    private static String words = "";
    private static int seen = 0;
    private static int wrong = 0;

    private Sentences() {
    }

    static void open(String inSection, String sentence) {
        section = inSection;
        words = sentence;
        OPENED.computeIfAbsent(section, s -> new LinkedHashMap<>()).putIfAbsent(words, 0);
    }

    static void promise(int number, String sentence) {
        open("Promise " + number, sentence);
    }

    static void term(String sentence) {
        open("Terms", sentence);
    }

    static void due(String call, long got, long want) {
        dueText(call, Long.toString(got), Long.toString(want));
    }

    static void dueText(String call, String got, String want) {
        seen++;
        OPENED.get(section).merge(words, 1, Integer::sum);
        if (!got.equals(want)) {
            fault(section + ", '" + words + "': " + call + " answered " + got + ", due is " + want);
        }
    }

    private static void fault(String text) {
        wrong++;
        if (wrong <= MOST_PRINTED) {
            System.out.println(text);
        }
    }

    /** Looks at the sentences themselves, and says how it went: how many faults. */
    static int end() throws IOException {
        int many = 0;
        for (Map.Entry<String, Map<String, Integer>> s : OPENED.entrySet()) {
            for (Map.Entry<String, Integer> w : s.getValue().entrySet()) {
                many++;
                if (w.getValue() == 0) {
                    fault(s.getKey() + ", '" + w.getKey() + "': no answer was seen to");
                }
            }
        }
        if (Files.isReadable(DOCUMENT)) {
            compareWithDocument(Files.readString(DOCUMENT));
        } else {
            System.out.println(DOCUMENT + " is not here: its words are not compared");
        }
        System.out.println(many + " sentences, " + seen + " answers seen, " + wrong + " not as due");
        return wrong;
    }

    // ---- the words of the document

    private static void compareWithDocument(String text) {
        Map<String, String> sections = sectionsOf(text);
        for (String name : OPENED.keySet()) {
            if (!sections.containsKey(name)) {
                fault("the document has no section " + name);
            }
        }
        for (Map.Entry<String, String> s : sections.entrySet()) {
            compareSection(s.getKey(), s.getValue());
        }
    }

    private static void compareSection(String name, String text) {
        boolean[] covered = new boolean[text.length()];
        for (String sentence : OPENED.getOrDefault(name, Map.of()).keySet()) {
            int at = text.indexOf(sentence);
            if (at < 0) {
                fault(name + " does not say '" + sentence + "'");
            }
            for (; at >= 0; at = text.indexOf(sentence, at + 1)) {
                java.util.Arrays.fill(covered, at, at + sentence.length(), true);
            }
        }
        StringBuilder left = new StringBuilder();
        for (int i = 0; i < covered.length; i++) {
            left.append(covered[i] ? ' ' : text.charAt(i));
        }
        String rest = left.toString().replaceAll("\\s+", " ").trim();
        if (rest.matches(".*[A-Za-z0-9].*")) {
            fault(name + ": no test stands for '" + rest + "'");
        }
    }

    /** What the document asks for, by section: "Head", "Terms", "Promise 1" to "Promise 30". */
    private static Map<String, String> sectionsOf(String text) {
        Map<String, String> sections = new LinkedHashMap<>();
        for (String part : text.split("(?m)^## ")) {
            String title = part.lines().findFirst().orElse("").trim();
            String body = plain(part.substring(part.indexOf('\n') + 1));
            if (title.equals("What it is")) {
                sections.put("Head", body.substring(body.indexOf("An object is used")));
            } else if (title.equals("Terms")) {
                sections.put("Terms", body);
            } else if (title.startsWith("Promise ")) {
                // Ahead of the colon stands the call, which is a matter of the face.
                sections.put(title.substring(0, title.indexOf(':')), body.substring(body.indexOf("`:") + 2).trim());
            }
        }
        return sections;
    }

    /** One line, without the signs that part it, and without the names of groups of calls. */
    private static String plain(String body) {
        return body.replaceAll("```(text)?", " ").replaceAll("======== [0-9]", " ")
            .replaceAll("Ahead of the calls .* the interface says: ---- \\w+", " ")
            .replaceAll("\\s+", " ").trim();
    }
}
