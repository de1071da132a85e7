import java.io.IOException;
import java.nio.charset.StandardCharsets;
import java.nio.file.Files;
import java.nio.file.Path;
import java.util.ArrayList;
import java.util.LinkedHashMap;
import java.util.List;
import java.util.Map;

/** The document's sentences that have a test of their own, and the answers that they ask for. */
final class Sentences {
    private static final String TERMS = "Terms";
    private static final String WHAT_IT_IS = "What it is";

    private final Check check;
    private final List<String[]> quoted = new ArrayList<>();
    private String now = "";

    Sentences(Check check) {
        this.check = check;
    }

    /** The checks that follow are of these words of a promise. */
    void promise(int number, String words) {
        quote("Promise " + number, words);
    }

    /** The checks that follow are of these words of the Terms. */
    void term(String words) {
        quote(TERMS, words);
    }

    /** The checks that follow are of these words of the document's beginning. */
    void beginning(String words) {
        quote(WHAT_IT_IS, words);
    }

    private void quote(String section, String words) {
        quoted.add(new String[] {section, words});
        now = section + ", \"" + words + "\": ";
    }

    void due(String call, long got, long due) {
        check.due(now + call, got, due);
    }

    void isTrue(String what, boolean holds) {
        check.isTrue(now + what, holds);
    }

    void fraction(String call, long gotUpper, long gotLower, long upper, long lower) {
        check.dueFraction(now + call, gotUpper, gotLower, upper, lower);
    }

    /** Each quote stands in the document, and no word of the Terms and the promises is left over. */
    void compareWith(Path document) throws IOException {
        Map<String, String> sections = sections(Files.readString(document, StandardCharsets.UTF_8));
        Map<String, boolean[]> covered = new LinkedHashMap<>();
        for (Map.Entry<String, String> section : sections.entrySet()) {
            covered.put(section.getKey(), new boolean[section.getValue().length()]);
        }
        for (String[] quote : quoted) {
            String text = sections.getOrDefault(quote[0], "");
            int start = text.indexOf(quote[1]);
            check.isTrue(quote[0] + " has the words \"" + quote[1] + "\"", start >= 0);
            for (int i = Math.max(start, 0); i < start + quote[1].length() && start >= 0; i++) {
                covered.get(quote[0])[i] = true;
            }
        }
        for (Map.Entry<String, String> section : sections.entrySet()) {
            if (!section.getKey().equals(WHAT_IT_IS)) {
                String left = leftOver(section.getValue(), covered.get(section.getKey()));
                check.isTrue(section.getKey() + ": without a test are the words " + left, left.isEmpty());
            }
        }
    }

    private static String leftOver(String text, boolean[] covered) {
        StringBuilder left = new StringBuilder();
        for (int i = 0; i < text.length(); i++) {
            left.append(covered[i] ? ' ' : text.charAt(i));
        }
        String words = left.toString().replaceAll("\\s+", " ").trim();
        return words.matches("\\W*") ? "" : words;
    }

    /** By heading, without the form of a call, the groups of calls, and the numbers of the Terms. */
    private static Map<String, String> sections(String document) {
        Map<String, String> sections = new LinkedHashMap<>();
        for (String section : document.split("(?m)^## ")) {
            String heading = section.split("[:\n]", 2)[0].trim();
            if (heading.equals(TERMS) || heading.equals(WHAT_IT_IS) || heading.startsWith("Promise ")) {
                String text = section.substring(section.indexOf('\n'));
                text = text.replaceAll("(?m)^Ahead of the calls.*$", "").replaceAll("(?m)^```.*$", "");
                text = text.replaceAll("(?m)^==== \\d ", "").replaceFirst("^\\s*`[^`]*`: ", "");
                sections.put(heading, text.replaceAll("\\s+", " "));
            }
        }
        return sections;
    }
}
