import java.io.IOException;
import java.nio.file.Files;
import java.nio.file.Path;
import java.util.Map;
import java.util.Set;
import java.util.TreeMap;
import java.util.TreeSet;

/**
 * Tests by the sentences of the document. Each test begins with the words that it holds to; they
 * must stand in that part of the document, so that a test can't outlive its sentence.
 */
final class Sentences {
    private static final Path DOCUMENT = Path.of("../shared/DOC.md");

    private final Check check;
    private final Map<String, String> parts = new TreeMap<>();
    private final Set<String> said = new TreeSet<>();
    private final Set<String> partsTested = new TreeSet<>();
    private String sentence = "";
    private int rowsAhead = 0;

    Sentences(String name) {
        check = new Check(name);
        try {
            readParts(Files.readString(DOCUMENT));
        } catch (IOException missing) {
            // The class can be tested without it; only the words can't be looked up then.
            System.out.println(name + ": the document is not at " + DOCUMENT + ", its words are not looked up");
        }
    }

    /** The parts are "Terms 1" to "Terms 4" and "Promise 1" to "Promise 42". */
    private void readParts(String document) {
        for (String part : document.split("\n## ")) {
            String title = part.split("[:\n]")[0];
            if (title.equals("Terms")) {
                String[] terms = part.split("==== \\d\\.");
                for (int i = 0; i < terms.length; i++) {
                    parts.put("Terms " + (i + 1), terms[i]);
                }
            } else {
                parts.put(title, part);
            }
        }
    }

    void says(String part, String words) {
        closeSentence();
        sentence = part + ", \"" + words + "\"";
        partsTested.add(part);
        boolean stands = parts.containsKey(part) && parts.get(part).contains(words);
        check.due(sentence + " stands there", true, stands || parts.isEmpty());
        check.due(sentence + " has one test", true, said.add(sentence));
        rowsAhead = check.rows();
    }

    private void closeSentence() {
        if (!sentence.isEmpty()) {
            check.due(sentence + " has rows", true, check.rows() > rowsAhead);
        }
    }

    void due(String call, long want, long got) {
        check.due(sentence + ": " + call, want, got);
    }

    void due(String call, boolean want, boolean got) {
        check.due(sentence + ": " + call, want, got);
    }

    /** A text that has no fault. */
    void right(int figures, String text) {
        CradleTreaty x = new CradleTreaty();
        due("treaty of " + text, figures, Check.treaty(x, text));
        due("fault of " + text, 0, x.fault(0));
        due("place of " + text, CradleTreaty.NONE, x.fault(1));
    }

    /** A text that has one. */
    void fault(int fault, int place, String text) {
        CradleTreaty x = new CradleTreaty();
        due("treaty of " + text, CradleTreaty.NONE, Check.treaty(x, text));
        due("fault of " + text, fault, x.fault(0));
        due("place of " + text, place, x.fault(1));
    }

    /** All that can be seen of what is, so that a call can be told to have done nothing. */
    static String all(CradleTreaty x) {
        StringBuilder text = new StringBuilder();
        for (int what = 0; what <= 17; what++) {
            text.append(x.about(what)).append(' ');
        }
        for (int tribe = 0; tribe < x.about(1); tribe++) {
            text.append(x.tribe(tribe, 3)).append(' ').append(x.tribe(tribe, 4)).append(' ');
        }
        return text.toString();
    }

    void same(String call, String before, CradleTreaty x) {
        String then = all(x);
        due(call + " does nothing: " + before + " is " + then + " then", true, before.equals(then));
    }

    /** That each of these parts has a sentence with a test. */
    void tested(String... partsDue) {
        for (String part : partsDue) {
            check.due(part + " is tested", true, partsTested.contains(part));
        }
    }

    void finish() {
        closeSentence();
        check.finish();
    }

    /** The names of the promises from one to another, and of the terms that they go by. */
    static String[] partsOf(int terms, int from, int to) {
        String[] names = new String[to - from + 2];
        names[0] = "Terms " + terms;
        for (int promise = from; promise <= to; promise++) {
            names[promise - from + 1] = "Promise " + promise;
        }
        return names;
    }
}
