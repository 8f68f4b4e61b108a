import java.util.BitSet;
import java.util.LinkedHashMap;
import java.util.Map;
import java.util.regex.Matcher;
import java.util.regex.Pattern;

/**
 * The document, cut into its headings: each sentence is quoted with the test of its own, so that a quote
 * that does not stand there, and a sentence that no test quotes, are told.
 */
final class Book extends Due {
    private final Map<String, String> bodies = new LinkedHashMap<>();
    private final Map<String, BitSet> quoted = new LinkedHashMap<>();
    private String heading = "";
    private int at = 0;
    private int tests = 0;

    Book(String document) {
        for (String section : document.split("(?m)^## ")) {
            int line = section.indexOf('\n');
            String name = section.substring(0, line).trim();
            String body = section.substring(line).replaceAll("```\\w*", " ").replaceAll("\\s+", " ").trim();
            // The face stands ahead of each promise; LanguageTest looks at that.
            String words = name.startsWith("Promise") ? body.replaceFirst("^`[^`]*`: ", "") : body;
            bodies.put(name, words);
            quoted.put(name, new BitSet());
        }
    }

    /** The sentences that follow stand under this heading, in their order. */
    void open(String name) {
        heading = name;
        at = 0;
        if (!bodies.containsKey(name)) {
            where = name;
            isWrong("there is no such heading");
        }
    }

    void says(String quote, Runnable test) {
        where = heading + ": '" + quote + "'";
        tests++;
        int from = bodies.getOrDefault(heading, "").indexOf(quote, at);
        if (from < 0) {
            isWrong("it does not say so");
            return;
        }
        at = from + quote.length();
        quoted.get(heading).set(from, at);
        try {
            test.run();
        } catch (RuntimeException e) {
            isWrong("threw " + e);
        }
    }

    int tests() {
        return tests;
    }

    /** Tells each word of the Terms and the Promises that stands in no quote. */
    void isWhole() {
        int promises = 0;
        for (String name : bodies.keySet()) {
            if (!name.equals("Terms") && !name.startsWith("Promise")) {
                continue;
            }
            promises += name.startsWith("Promise") ? 1 : 0;
            where = name;
            Matcher word = Pattern.compile("\\S*\\w\\S*").matcher(bodies.get(name));
            while (word.find()) {
                if (quoted.get(name).nextClearBit(word.start()) < word.end()) {
                    isWrong("no test quotes '" + word.group() + "' at " + word.start());
                }
            }
        }
        due("promises", promises, 34);
    }
}
