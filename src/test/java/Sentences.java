import java.util.ArrayList;
import java.util.LinkedHashMap;
import java.util.List;
import java.util.Map;
import java.util.regex.Pattern;

/** The sentences of the document that name boundary cases, and which of them a test has quoted. */
final class Sentences {
    static final int PROMISES = 28;
    private static final String DESCRIPTION = "Description";
    private static final Pattern BOUNDARY = Pattern.compile(
            "\\d|\\b(if|none|NONE|no|without|empty|at most|at least|oldest|latest|lowest|Throws|Undoable|Loses|nothing)\\b");

    /** The words of each section, by its heading up to the colon. */
    private final Map<String, String> sections = new LinkedHashMap<>();
    private final Map<String, List<String>> quoted = new LinkedHashMap<>();

    Sentences(String document) {
        for (String section : document.split("\n## ")) {
            String heading = section.split("\n", 2)[0];
            String body = section.substring(heading.length());
            sections.put(heading.split(":")[0].trim(), body);
        }
    }

    /** Takes down a quote; tells whether it stands in the promise or in what the document says of all. */
    boolean quote(int promise, String words) {
        boolean found = false;
        for (String name : new String[] {"Promise " + promise, DESCRIPTION, "The public face", "What it is"}) {
            if (plain(sections.getOrDefault(name, "")).contains(words)) {
                quoted.computeIfAbsent(name, n -> new ArrayList<>()).add(words);
                found = true;
            }
        }
        return found;
    }

    boolean hasAllPromises() {
        for (int promise = 1; promise <= PROMISES; promise++) {
            if (!sections.containsKey("Promise " + promise)) {
                return false;
            }
        }
        return sections.containsKey(DESCRIPTION);
    }

    /** The sentences that name a boundary case and of which no test has quoted a word. */
    List<String> untold() {
        List<String> untold = new ArrayList<>();
        for (String name : sections.keySet()) {
            if (!name.equals(DESCRIPTION) && !name.startsWith("Promise ")) {
                continue;
            }
            List<String> quotes = quoted.getOrDefault(name, List.of());
            for (String sentence : sentencesOf(sections.get(name))) {
                if (BOUNDARY.matcher(sentence).find() && !isTold(sentence, quotes)) {
                    untold.add(name + ": " + sentence);
                }
            }
        }
        return untold;
    }

    private static boolean isTold(String sentence, List<String> quotes) {
        for (String quote : quotes) {
            if (sentence.contains(quote) || quote.contains(sentence)) {
                return true;
            }
        }
        return false;
    }

    /** The sentences of a section without its signature and the lines between groups of promises. */
    private static List<String> sentencesOf(String section) {
        List<String> all = new ArrayList<>();
        for (String line : section.split("\n")) {
            String words = line.trim();
            if (words.isEmpty() || words.startsWith("`") || words.startsWith("----")) {
                continue;
            }
            if (words.startsWith("- ") || words.startsWith("Throws")) {
                all.add(words);
                continue;
            }
            for (String sentence : words.replaceFirst("^\\d\\. ", "").split("(?<=\\.\\)?) +(?=[A-Z\"(])")) {
                all.add(sentence);
            }
        }
        return all;
    }

    private static String plain(String words) {
        return words.replaceAll("\\s+", " ");
    }
}
