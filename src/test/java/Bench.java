import java.io.IOException;
import java.nio.file.Files;
import java.nio.file.Path;

/**
 * What tests of the document's sentences share: says() begins one sentence, due() checks stand under it, and
 * allSaid() looks that no word of a part of the document was left without a sentence that has checks.
 */
abstract class Bench extends Props {
    static final int LOW = Integer.MIN_VALUE;
    static final int HIGH = Integer.MAX_VALUE;

    private static final String DOC = document();
    private static final boolean[] SAID = new boolean[DOC.length()];
    private static String sentence = "";
    private static int sentences = 0;
    private static int checks = 0;
    private static int here = 1;
    private static int wrong = 0;

    private static String document() {
        try {
            return Files.readString(Path.of("../shared/DOC.md"));
        } catch (IOException missing) {
            throw new IllegalStateException("the document is not at ../shared/DOC.md", missing);
        }
    }

    static void says(String words) {
        mustHaveChecks();
        int at = DOC.indexOf(words);
        if (at < 0 || DOC.indexOf(words, at + 1) >= 0) {
            complain("not just once in the document: " + words);
        }
        for (int k = Math.max(0, at); at >= 0 && k < at + words.length(); k++) {
            SAID[k] = true;
        }
        sentence = words;
        sentences++;
        here = 0;
    }

    static void due(String what, int got, int want) {
        checks++;
        here++;
        if (got != want) {
            complain("'" + sentence + "': " + what + " answered " + got + ", due is " + want);
        }
    }

    private static void complain(String words) {
        wrong++;
        System.out.println(words);
    }

    private static void mustHaveChecks() {
        if (here == 0) {
            complain("no check under: " + sentence);
        }
    }

    /** Every word from one place of the document to another stands in a sentence that was said. */
    static void allSaid(String from, String to) {
        int start = DOC.indexOf(from);
        int end = DOC.indexOf(to);
        int lineStart = start;
        boolean ordered = start >= 0 && end > start;
        if (!ordered) {
            complain("not in the document: " + from + " .. " + to);
        }
        while (ordered && lineStart < end) {
            int lineEnd = DOC.indexOf('\n', lineStart);
            String line = DOC.substring(lineStart, lineEnd);
            if (!line.startsWith("#") && !line.startsWith("```")) {
                mustBeSaid(lineStart, lineEnd);
            }
            lineStart = lineEnd + 1;
        }
    }

    private static void mustBeSaid(int from, int to) {
        for (int k = from; k < to; k++) {
            if (!SAID[k] && Character.isLetterOrDigit(DOC.charAt(k))) {
                int stop = k;
                while (stop < to && !SAID[stop]) {
                    stop++;
                }
                complain("no test says: " + DOC.substring(k, stop));
                k = stop;
            }
        }
    }

    static void finish() {
        mustHaveChecks();
        System.out.println(sentences + " sentences, " + checks + " answers, " + wrong + " not as due");
        System.exit(wrong == 0 ? 0 : 1);
    }

    /** A TEXT in which ^ stands ahead of the TOKEN that can't go on. */
    static void fault(String marked) {
        int at = marked.indexOf('^');
        String text = marked.substring(0, at) + marked.substring(at + 1);
        ClothPlay p = new ClothPlay();
        due("play of '" + text + "'", play(p, text), -6);
        due("fault of '" + text + "'", p.fault(), at);
    }

    static void taken(String text, int clauses) {
        ClothPlay p = new ClothPlay();
        due("play of '" + text + "'", play(p, text), clauses);
        due("fault of '" + text + "'", p.fault(), NONE);
    }

    /** Whether a TEST is so of a FIGURE with two STICKS at x 6, y 4, deep 3 on BEAT 2 that helper 0 holds. */
    static void so(String test, boolean want) {
        ClothPlay p = with(2);
        due("play with '" + test + "'", play(p, "beat 2 0 at 6,4 deep 3;slip 100 if " + test), 2);
        due(test, p.show(0), want ? 1 : 0);
    }
}
