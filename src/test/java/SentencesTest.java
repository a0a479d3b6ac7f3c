import java.io.IOException;
import java.nio.file.Files;
import java.nio.file.Path;
import java.util.ArrayList;
import java.util.List;
import java.util.regex.Matcher;
import java.util.regex.Pattern;
import java.util.stream.Stream;

/**
 * The words that the tests say they hold (Check.holds) stand in the document, and no word of it is left out. The
 * document is told by -Ddoc=.., the tests by -Dtests=.. (as .ci/run does).
 */
public final class SentencesTest {
    /** Headings, the face of each promise (FaceTest holds it), and what leaves all answers free. */
    private static final Pattern NOTHING_TO_HOLD = Pattern.compile("==== [1-4]\\.|## [A-Za-z ]+(?= A )|## Promise \\d+: [A-Za-z ]+ `[^`]*`:"
        + "|; what later calls answer is free\\.|The constants:");
    private static final Pattern HELD = Pattern.compile("(?:\\.holds\\((\\d+), |[bB]ounds\\()\"([^\"]*)\"");

    private record Quote(int promise, String words) { }

    public static void main(String[] args) throws IOException {
        String doc = System.getProperty("doc");
        String tests = System.getProperty("tests");
        Check.due("-Ddoc and -Dtests are told", doc != null && tests != null, true);
        if (doc != null && tests != null) {
            String text = promised(Files.readString(Path.of(doc)));
            List<Quote> quotes = quotes(Path.of(tests));
            boolean[] held = held(text, quotes);
            eachWordIsHeld(text, held);
            eachPromiseHasOne(quotes);
        }
        Check.finish();
    }

    /** The document without the block of its face and what is not promised, each blank alone. */
    private static String promised(String doc) {
        int start = doc.indexOf("## What it is");
        int face = doc.indexOf("## The public face");
        int terms = doc.indexOf("## Terms");
        int not = doc.indexOf("## Not promised");
        String text = doc.substring(start, face) + doc.substring(terms, not);
        return text.replaceAll("```(text)?", " ").replaceAll("\\s+", " ");
    }

    private static List<Quote> quotes(Path tests) throws IOException {
        List<Quote> quotes = new ArrayList<>();
        try (Stream<Path> files = Files.list(tests)) {
            for (Path file : files.filter(f -> f.toString().endsWith("Test.java")).sorted().toList()) {
                Matcher m = HELD.matcher(Files.readString(file));
                while (m.find()) quotes.add(new Quote(m.group(1) == null ? 4 : Integer.parseInt(m.group(1)), m.group(2)));
            }
        }
        return quotes;
    }

    /** Which signs of the text some quote holds; those of a promise's own section only that promise's. */
    private static boolean[] held(String text, List<Quote> quotes) {
        boolean[] held = new boolean[text.length()];
        int promises = text.indexOf("## Promise 1:");
        for (Quote quote : quotes) {
            int start = text.indexOf("## Promise " + quote.promise() + ":");
            int end = text.indexOf("## Promise " + (quote.promise() + 1) + ":");
            boolean found = false;
            for (int at = text.indexOf(quote.words()); at >= 0; at = text.indexOf(quote.words(), at + 1)) {
                boolean own = at < promises || at > start && (end < 0 || at < end);
                if (own) {
                    found = true;
                    for (int i = 0; i < quote.words().length(); i++) held[at + i] = true;
                }
            }
            Check.due("the document has for promise " + quote.promise() + " '" + quote.words() + "'", found, true);
        }
        return held;
    }

    private static void eachWordIsHeld(String text, boolean[] held) {
        Matcher free = NOTHING_TO_HOLD.matcher(text);
        while (free.find()) {
            for (int i = free.start(); i < free.end(); i++) held[i] = true;
        }
        int start = 0;
        for (int i = 1; i <= text.length(); i++) {
            if (i == text.length() || held[i] != held[start]) {
                String part = text.substring(start, i);
                boolean tells = part.matches(".*[A-Za-z0-9].*");
                Check.due("a test says that it holds '" + part + "'", held[start] || !tells, true);
                start = i;
            }
        }
    }

    private static void eachPromiseHasOne(List<Quote> quotes) {
        for (int promise = 1; promise <= 44; promise++) {
            int number = promise;
            Check.due("a test of promise " + promise, quotes.stream().anyMatch(q -> q.promise() == number), true);
        }
    }
}
