import java.io.IOException;
import java.nio.file.Files;
import java.nio.file.Path;
import java.util.ArrayList;
import java.util.LinkedHashMap;
import java.util.List;
import java.util.Map;
import java.util.Set;
import java.util.TreeMap;

/** Tests of which each stands for words of the document, and a look at whether all words of it have a test. */
abstract class Sentences extends Checks {
    /** Numbers that are no slugs where there are three; those around 32 and 64 a shift would take for slugs. */
    static final int[] NO_SLUGS = {-1, 3, 23, 24, 31, 32, 33, 34, 64, -32, -31, FAR, BELOW};
    private static final Set<String> WITHOUT_TESTS = Set.of("The public face", "Not promised");
    private static final Map<String, List<String>> quotes = new TreeMap<>();
    private static String section = "";
    private static String words = "";
    private static int answers = 1;

    /** Says which words of the document the checks that follow stand for; they have to stand there just so. */
    static void sentence(String inSection, String itsWords) {
        endOfSentence();
        section = inSection;
        words = itsWords;
        answers = 0;
        quotes.computeIfAbsent(inSection, key -> new ArrayList<>()).add(itsWords);
    }

    private static void endOfSentence() {
        holds(section + ", \"" + words + "\": nothing was checked", answers > 0);
    }

    static void is(String call, long got, long want) {
        answers++;
        due(section + ", \"" + words + "\": " + call, got, want);
    }

    static void yes(String what, boolean good) {
        answers++;
        holds(section + ", \"" + words + "\": not so: " + what, good);
    }

    /** Calls that all have the same answer. */
    static void all(long want, long... got) {
        for (int call = 0; call < got.length; call++) {
            is("call " + call + " of the row", got[call], want);
        }
    }

    static void inRow(String what, BeatSlugs board, int... slugs) {
        for (int place = 0; place < slugs.length; place++) {
            is(what + ": at(" + place + ")", board.at(place), slugs[place]);
        }
        is(what + ": the end of the row", board.at(slugs.length), NO_SUCH);
    }

    /** Every sentence of the document, and every part of one that ends with a ";", has to share words with a quote. */
    static void everySentenceHasATest(Path document) throws IOException {
        endOfSentence();
        Map<String, List<String>> sections = sectionsOf(Files.readString(document));
        for (Map.Entry<String, List<String>> quoted : quotes.entrySet()) {
            List<String> rows = sections.getOrDefault(quoted.getKey(), List.of());
            for (String quote : quoted.getValue()) {
                holds("the document does not say in " + quoted.getKey() + ": " + quote,
                    rows.stream().anyMatch(row -> row.contains(quote)));
            }
        }
        for (Map.Entry<String, List<String>> entry : sections.entrySet()) {
            for (String row : entry.getValue()) {
                tellUntested(entry.getKey(), row, quotes.getOrDefault(entry.getKey(), List.of()));
            }
        }
    }

    private static void tellUntested(String inSection, String row, List<String> quoted) {
        int from = 0;
        for (String part : row.split("(?<=[.;]) ")) {
            int to = from + part.length();
            int begin = from;
            boolean tested = quoted.stream().anyMatch(quote -> shares(row, quote, begin, to));
            holds("no test for " + inSection + ": " + part, tested);
            from = to + 1;
        }
    }

    private static boolean shares(String row, String quote, int from, int to) {
        for (int at = row.indexOf(quote); at >= 0; at = row.indexOf(quote, at + 1)) {
            if (at < to && at + quote.length() > from) {
                return true;
            }
        }
        return false;
    }

    /** The paragraphs and list rows of each section that promises something, each one in a line. */
    private static Map<String, List<String>> sectionsOf(String document) {
        Map<String, List<String>> sections = new LinkedHashMap<>();
        String[] parts = document.split("(?m)^#{1,3} ");
        for (String part : parts) {
            int end = part.indexOf('\n');
            String title = end < 0 ? part : part.substring(0, end).replaceAll(":.*", "");
            if (title.isEmpty() || WITHOUT_TESTS.contains(title)) {
                continue;
            }
            List<String> rows = new ArrayList<>();
            for (String row : part.substring(end + 1).replaceAll("```(text)?", "").split("\n\\s*\n|\n(?=- )")) {
                if (!row.isBlank()) {
                    rows.add(row.strip().replaceAll("\\s+", " "));
                }
            }
            sections.put(title, rows);
        }
        return sections;
    }
}
