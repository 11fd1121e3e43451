import java.io.IOException;
import java.nio.file.Files;
import java.nio.file.Path;
import java.util.ArrayList;
import java.util.BitSet;
import java.util.List;
import java.util.function.Consumer;

/**
 * Tests that each name a promise and a sentence of the document, word by word. That the words do stand there, in the
 * promise's own section or in the Terms, is tested too; so is that no sentence of these was left out.
 */
abstract class Sentences extends Checks {

    private static final int PROMISES = 30;

    private static final String[] SECTIONS = new String[PROMISES + 1];
    private static final BitSet[] QUOTED = new BitSet[PROMISES + 1];
    private static final int[] TESTS = new int[PROMISES + 1];

    /** Section 0 is the Terms; a promise's own begins behind the method's head. */
    static void readDocument(String path) throws IOException {
        String text = Files.readString(Path.of(path)).replaceAll("```(text)?", " ").replaceAll("\\s+", " ");
        for (int p = 0; p <= PROMISES; p++) {
            String head = p == 0 ? "## Terms " : "## Promise " + p + ": ";
            int from = text.indexOf(head) + head.length();
            String section = text.substring(from, text.indexOf(" ## ", from));
            SECTIONS[p] = p == 0 ? section : section.substring(section.indexOf("`: ") + 3);
            QUOTED[p] = new BitSet();
        }
    }

    /** A test of its own for one sentence, on a new object. */
    static void sentence(int promise, String words, Consumer<RoundStool> test) {
        about("promise " + promise + ", \"" + words + "\"");
        due("how often it stands in the document", quote(promise, words) + quote(0, words) > 0, true);
        TESTS[promise]++;
        test.accept(new RoundStool());
    }

    private static int quote(int section, String words) {
        int at = SECTIONS[section].indexOf(words);
        if (at < 0) {
            return 0;
        }
        QUOTED[section].set(at, at + words.length());
        return 1;
    }

    /** Each promise has a test, and each sentence (up to a full stop or a semicolon) is part of one. */
    static void nothingLeftOut() {
        for (int p = 0; p <= PROMISES; p++) {
            about(p == 0 ? "the Terms" : "promise " + p);
            due("tests there are", p == 0 || TESTS[p] > 0, true);
            for (int[] part : partsOf(SECTIONS[p])) {
                int quoted = QUOTED[p].nextSetBit(part[0]);
                boolean isTested = quoted >= 0 && quoted < part[1];
                due("tested: \"" + SECTIONS[p].substring(part[0], part[1]).trim() + "\"", isTested, true);
            }
        }
    }

    private static List<int[]> partsOf(String section) {
        List<int[]> parts = new ArrayList<>();
        int from = 0;
        for (int i = 0; i < section.length(); i++) {
            boolean isLast = i == section.length() - 1;
            boolean isStop = ".;".indexOf(section.charAt(i)) >= 0 && (isLast || section.charAt(i + 1) == ' ');
            if (isStop || isLast) {
                if (section.substring(from, i + 1).matches(".*[a-z].*")) {
                    parts.add(new int[] {from, i + 1});
                }
                from = i + 1;
            }
        }
        return parts;
    }
}
