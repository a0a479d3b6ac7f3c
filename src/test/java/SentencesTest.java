import java.io.IOException;
import java.nio.file.Files;
import java.nio.file.Path;
import java.util.ArrayList;
import java.util.List;
import java.util.regex.Matcher;
import java.util.regex.Pattern;
import java.util.stream.Stream;

/**
 * The words that the tests say they hold (Check.edge) stand in the document, and no boundary case that it names is left
 * out. The document is told by -Ddoc=.., the tests by -Dtests=.. (as .ci/run does).
 */
public final class SentencesTest {
    /** What a sentence that names a boundary case has in it. */
    private static final Pattern NAMED = Pattern.compile("NONE|HIDDEN|False|NoSuchElementException: |-2:| \\.\\. | at most|of several|of equal|beyond"
        + "|no such|no LINE|No LINE|ahead of the first|MISSING|refused|too early|going round|or more|and more|at first|up to|without sign|too many"
        + "|13th|empty|first n bytes|more than|above 0|below 0|below how many|modulo|rounded down|none is asked|any without end|as many as"
        + "|whatever|go on behind|it is so|the latest 40|the latest 60|instead of|either|in a row|is that or more|smaller in size");

    private record Quote(int promise, String words) { }

    public static void main(String[] args) throws IOException {
        String doc = System.getProperty("doc");
        String tests = System.getProperty("tests");
        Check.due("-Ddoc and -Dtests are told", doc != null && tests != null, true);
        if (doc != null && tests != null) {
            String text = promised(Files.readString(Path.of(doc)));
            List<Quote> quotes = quotes(Path.of(tests));
            boolean[] held = held(text, quotes);
            eachNamedIsHeld(text, held);
            eachPromiseHasOne(quotes);
        }
        Check.finish();
    }

    /** The document without its first words, the face and what is not promised, each blank alone. */
    private static String promised(String doc) {
        int start = doc.indexOf("==== 1.");
        int face = doc.indexOf("## The public face");
        int terms = doc.indexOf("## Terms");
        int not = doc.indexOf("## Not promised");
        String text = doc.substring(start, face) + doc.substring(terms, not);
        return text.replaceAll("```(text)?", " ").replaceAll("\\s+", " ");
    }

    private static List<Quote> quotes(Path tests) throws IOException {
        List<Quote> quotes = new ArrayList<>();
        Pattern edge = Pattern.compile("(?:\\.edge\\((\\d+), |[bB]ounds\\()\"([^\"]*)\"");
        try (Stream<Path> files = Files.list(tests)) {
            for (Path file : files.filter(f -> f.toString().endsWith("EdgesTest.java")).sorted().toList()) {
                Matcher m = edge.matcher(Files.readString(file));
                while (m.find()) quotes.add(new Quote(m.group(1) == null ? 4 : Integer.parseInt(m.group(1)), m.group(2)));
            }
        }
        return quotes;
    }

    /** Which signs of the text some quote holds; those of a promise's own section only that promise's. */
    private static boolean[] held(String text, List<Quote> quotes) {
        boolean[] held = new boolean[text.length()];
        int promises = text.indexOf("## Promise 1:");
        for (Quote quote : quotes) {
            int start = text.indexOf("## Promise " + quote.promise() + ":");
            int end = text.indexOf("## Promise " + (quote.promise() + 1) + ":");
            boolean found = false;
            for (int at = text.indexOf(quote.words()); at >= 0; at = text.indexOf(quote.words(), at + 1)) {
                boolean own = at < promises || at > start && (end < 0 || at < end);
                if (own) {
                    found = true;
                    for (int i = 0; i < quote.words().length(); i++) held[at + i] = true;
                }
            }
            Check.due("the document has for promise " + quote.promise() + " '" + quote.words() + "'", found, true);
        }
        return held;
    }

    private static void eachNamedIsHeld(String text, boolean[] held) {
        Matcher m = NAMED.matcher(text);
        while (m.find()) {
            boolean all = true;
            for (int i = m.start(); i < m.end(); i++) all &= held[i];
            String around = text.substring(Math.max(0, m.start() - 60), Math.min(text.length(), m.end() + 40));
            Check.due("a test says that it holds '" + m.group() + "' in '" + around + "'", all, true);
        }
    }

    private static void eachPromiseHasOne(List<Quote> quotes) {
        for (int promise = 1; promise <= 44; promise++) {
            int number = promise;
            Check.due("a boundary case of promise " + promise, quotes.stream().anyMatch(q -> q.promise() == number), true);
        }
    }
}
