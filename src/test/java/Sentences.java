import java.util.ArrayList;
import java.util.Arrays;
import java.util.LinkedHashMap;
import java.util.List;
import java.util.Map;
import java.util.regex.Matcher;
import java.util.regex.Pattern;

/** The words of the document, and which of them stand in quotes of the tests. */
final class Sentences {
    static final int PROMISES = 28;
    private static final String FACE = "The public face";
    private static final String NOT_PROMISED = "Not promised";
    /** What says nothing of an answer: names of paragraphs, and how the document is laid out. */
    private static final String[] LAYOUT = {"Stations.", "Messages.", "Line.", "Token.", "Station text.", "Undo.", "Exceptions.",
        "The constants:", "The constructor and the methods follow, a promise each: the signature, then what it does."};
    private static final Pattern WORD = Pattern.compile("\\S+");

    /** The words of each section, by its heading up to the colon. */
    private final Map<String, String> sections = new LinkedHashMap<>();
    /** For each sign of a section whether it stands in a quote. */
    private final Map<String, boolean[]> told = new LinkedHashMap<>();

    Sentences(String document) {
        for (String section : document.split("\n## ")) {
            String heading = section.split("\n", 2)[0];
            String name = heading.split(":")[0].trim();
            String words = wordsOf(section.substring(heading.length()));
            sections.put(name, words);
            told.put(name, new boolean[words.length()]);
        }
        for (String words : LAYOUT) {
            mark("Description", words);
        }
    }

    /** Takes down a quote; tells whether it stands in the promise or in what the document says of all. */
    boolean quote(int promise, String words) {
        boolean found = false;
        for (String name : new String[] {"Promise " + promise, "Description", "What it is", NOT_PROMISED, FACE}) {
            found |= mark(name, words);
        }
        return found;
    }

    private boolean mark(String name, String words) {
        String section = sections.getOrDefault(name, "");
        boolean[] marks = told.get(name);
        boolean found = false;
        for (int at = section.indexOf(words); at >= 0 && !words.isEmpty(); at = section.indexOf(words, at + 1)) {
            Arrays.fill(marks, at, at + words.length(), true);
            found = true;
        }
        return found;
    }

    boolean hasAllPromises() {
        for (int promise = 1; promise <= PROMISES; promise++) {
            if (!sections.containsKey("Promise " + promise)) {
                return false;
            }
        }
        return sections.containsKey("Description") && sections.containsKey(FACE);
    }

    /**
     * The words from the document's first line to its last that stand in no quote. FaceTest has those of
     * the face; what is not promised can't be tested.
     */
    List<String> untold() {
        List<String> untold = new ArrayList<>();
        for (String name : sections.keySet()) {
            if (!name.equals(FACE) && !name.equals(NOT_PROMISED)) {
                addUntold(untold, name);
            }
        }
        return untold;
    }

    private void addUntold(List<String> untold, String name) {
        boolean[] marks = told.get(name);
        StringBuilder run = new StringBuilder();
        String words = sections.get(name);
        Matcher word = WORD.matcher(words);
        while (word.find()) {
            if (!isTold(words, marks, word.start(), word.end())) {
                run.append(' ').append(word.group());
            } else if (run.length() > 0) {
                untold.add(name + ":" + run);
                run.setLength(0);
            }
        }
        if (run.length() > 0) {
            untold.add(name + ":" + run);
        }
    }

    /** A quote may leave out commas and the like behind a word, but no letter, digit or arithmetic sign. */
    private static boolean isTold(String words, boolean[] marks, int begin, int end) {
        for (int at = begin; at < end; at++) {
            if (!marks[at] && ".,:;()\"-".indexOf(words.charAt(at)) < 0) {
                return false;
            }
        }
        return true;
    }

    /** A section without its signature, the numbers of steps and the lines between groups of promises. */
    private static String wordsOf(String section) {
        StringBuilder words = new StringBuilder();
        for (String line : section.split("\n")) {
            String plain = line.trim().replaceAll("\\s+", " ").replaceFirst("^\\d\\. ", "");
            if (!plain.isEmpty() && !plain.startsWith("`") && !plain.startsWith("----")) {
                words.append(words.length() == 0 ? "" : " ").append(plain);
            }
        }
        return words.toString();
    }
}
