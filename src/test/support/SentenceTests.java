import java.io.IOException;
import java.io.UncheckedIOException;
import java.nio.file.Files;
import java.nio.file.Path;
import java.util.Arrays;
import java.util.LinkedHashMap;
import java.util.Map;

/**
 * Tests that are found by the document's own words: each begins with the sentence that it holds the
 * class to. A sentence that the document does not have is wrong, and so is one without an answer asked
 * for, and so are words of the document that no test and no remark has taken up.
 */
abstract class SentenceTests extends Programs {
    private static final Map<String, Section> SECTIONS = read(Path.of("../shared/DOC.md"));
    private static final Map<String, Section> OPENED = new LinkedHashMap<>();

    private static String heading = null;
    private static Section section = null;
    private static String sentence = null;
    private static int askedOfSentence = 0;
    private static int sentences = 0;
    private static int asked = 0;
    private static int wrong = 0;

    private static final class Section {
        final String text;
        final boolean[] taken;

        Section(String text) {
            this.text = text;
            this.taken = new boolean[text.length()];
        }

        /** Takes the first place where the words stand and are not yet taken; false if they stand nowhere. */
        boolean take(String words) {
            int at = text.indexOf(words);
            boolean found = at >= 0;
            while (at >= 0 && isTaken(at, words.length())) {
                at = text.indexOf(words, at + 1);
            }
            for (int i = Math.max(at, 0); at >= 0 && i < at + words.length(); i++) {
                taken[i] = true;
            }
            return found;
        }

        private boolean isTaken(int from, int length) {
            for (int i = from; i < from + length; i++) {
                if (taken[i]) {
                    return true;
                }
            }
            return false;
        }

        String rest() {
            StringBuilder rest = new StringBuilder();
            for (int i = 0; i < taken.length; i++) {
                rest.append(taken[i] ? '|' : text.charAt(i));
            }
            return rest.toString().replaceAll("\\|+", "|");
        }
    }

    private static Map<String, Section> read(Path document) {
        Map<String, Section> sections = new LinkedHashMap<>();
        try {
            for (String part : Files.readString(document).split("(?m)^## ")) {
                int heading = part.indexOf('\n');
                String text = part.substring(heading + 1).replaceAll("```\\w*|=+ \\d ", " ").replaceAll("\\s+", " ");
                sections.put(part.substring(0, heading).trim(), new Section(text));
            }
        } catch (IOException missing) {
            throw new UncheckedIOException(missing);
        }
        return sections;
    }

    static void section(String opened) {
        endSentence();
        heading = opened;
        section = SECTIONS.getOrDefault(heading, new Section(""));
        OPENED.put(heading, section);
    }

    /** Begins the test of a sentence, or of that part of it that names one boundary. */
    static void sentence(String words) {
        endSentence();
        sentence = words;
        sentences++;
        must(section.take(words), "the document does not say this");
    }

    private static void endSentence() {
        must(sentence == null || askedOfSentence > 0, "nothing was asked");
        sentence = null;
        askedOfSentence = 0;
    }

    /** Words that name no boundary case. */
    static void plain(String words) {
        endSentence();
        sentence = words;
        askedOfSentence = 1;
        must(section.take(words), "the document does not say this");
    }

    /** What is left of a section names no boundary case. */
    static void plainRest() {
        endSentence();
        Arrays.fill(section.taken, true);
    }

    static void due(String what, long got, long want) {
        asked++;
        askedOfSentence++;
        must(got == want, what + ": answered " + got + ", due is " + want);
    }

    static void dueTerm(String what, StepsAhead x, int routine, int side, int t, long... want) {
        for (int i = 0; i < 4; i++) {
            due(what + ", term " + t + "." + i, x.term(routine, side, t, i), want[i]);
        }
    }

    /** Both sides, each for some inputs. */
    static void dueValue(String what, StepsAhead x, int routine, int x0, int x1, long want) {
        due(what + ", lower", x.value(routine, LOWER, x0, x1), want);
        due(what + ", upper", x.value(routine, UPPER, x0, x1), want);
    }

    private static void must(boolean holds, String what) {
        if (!holds) {
            wrong++;
            System.out.println(heading + ": \"" + sentence + "\": " + what);
        }
    }

    static void finish() {
        endSentence();
        for (Map.Entry<String, Section> opened : OPENED.entrySet()) {
            heading = opened.getKey();
            for (String rest : opened.getValue().rest().split("\\|")) {
                sentence = rest.trim();
                must(!sentence.matches(".*[A-Za-z0-9].*"), "no test takes this up");
            }
        }
        System.out.println(sentences + " sentences, " + asked + " answers asked, " + wrong + " things wrong");
        if (wrong != 0) {
            System.exit(1);
        }
    }
}
