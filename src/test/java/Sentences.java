import java.io.IOException;
import java.nio.file.Files;
import java.nio.file.Path;

/**
 * A walk through the document, from its first sentence to its last promise (the face alone is left
 * to FaceTest): each sentence is said in its place, and what is tried for it comes behind. A
 * sentence that is passed over, or for which nothing is tried, is a failure of the test.
 */
final class Sentences {
    private static final Path DOCUMENT = Path.of("../shared/DOC.md");
    private static final int SHOWN = 40;

    private static final String text = document();
    private static int reached = 0;
    private static String sentence = "";
    private static int tried = 1;
    private static int right = 0;
    private static int wrong = 0;

    private Sentences() {
    }

    private static String document() {
        try {
            String all = Files.readString(DOCUMENT);
            String part = all.substring(all.indexOf("## What it is"), all.indexOf("## Not promised"));
            String prose = part.replaceAll("(?s)```java.*?```", " ").replaceAll("(?m)^(#|```).*$", " ");
            return prose.replaceAll("\\s+", " ");
        } catch (IOException e) {
            System.out.println("the document is not at " + DOCUMENT + ": the sentences are tried, but not looked up");
            return "";
        }
    }

    static void says(String words) {
        nothingTried();
        sentence = words;
        tried = 0;
        if (text.isEmpty()) return;
        int at = text.indexOf(words, reached);
        if (at < 0) {
            fault("the document does not say that behind what was said before");
            return;
        }
        passedOver(text.substring(reached, at));
        reached = at + words.length();
    }

    private static void nothingTried() {
        if (tried == 0) fault("nothing is tried for it");
    }

    private static void passedOver(String words) {
        if (words.chars().anyMatch(Character::isLetterOrDigit)) fault("passed over before it: " + words);
    }

    private static void fault(String what) {
        wrong++;
        if (wrong <= SHOWN) System.out.println("\"" + sentence + "\" " + what);
    }

    static void due(String what, String got, String want) {
        tried++;
        if (got.equals(want)) right++;
        else fault(what + ": " + got + ", due is " + want);
    }

    static void due(String what, int got, int want) {
        due(what, String.valueOf(got), String.valueOf(want));
    }

    /** What a filter makes of an input, both told in words. */
    static void run(String values, String filter, String want) {
        NestedFilters x = Words.input(values);
        Words.filter(x, filter);
        due(filter + " of " + values, Words.told(x), want);
    }

    static void end() {
        nothingTried();
        if (!text.isEmpty()) passedOver(text.substring(reached));
        System.out.println(right + " passed, " + wrong + " failed");
        if (wrong != 0) System.exit(1);
    }
}
