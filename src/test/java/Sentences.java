import java.io.IOException;
import java.nio.file.Files;
import java.nio.file.Path;
import java.util.ArrayList;
import java.util.BitSet;
import java.util.List;
import java.util.TreeMap;
import java.util.regex.Matcher;
import java.util.regex.Pattern;

/**
 * The sentences that tests name, held against the document: each must stand there, and no word of its Terms and
 * of its promises may be left that no test names.
 */
final class Sentences {
    private static final Path DOC = Path.of("../shared/DOC.md");
    private static final int TERMS = 0;

    private record Quote(int promise, String sentence) { }

    private final List<Quote> quotes = new ArrayList<>();

    void quote(int promise, String sentence) {
        quotes.add(new Quote(promise, plain(sentence)));
    }

    void check(Due due) {
        TreeMap<Integer, String> doc = sections();
        due.is("promises in the document", 35, doc.size() - 1);
        TreeMap<Integer, BitSet> named = new TreeMap<>();
        doc.keySet().forEach(section -> named.put(section, new BitSet()));
        for (Quote quote : quotes) {
            boolean inTerms = mark(doc.get(TERMS), named.get(TERMS), quote.sentence);
            boolean inPromise = doc.containsKey(quote.promise)
                && mark(doc.get(quote.promise), named.get(quote.promise), quote.sentence);
            due.holds("'" + quote.sentence + "' stands in promise " + quote.promise + " or in the Terms", inTerms || inPromise);
        }
        doc.forEach((section, text) -> {
            String left = unnamed(text, named.get(section));
            due.holds((section == TERMS ? "Terms" : "promise " + section) + ": no test names '" + left + "'", left.isEmpty());
        });
    }

    private static boolean mark(String text, BitSet named, String sentence) {
        int at = text.indexOf(sentence);
        boolean found = at >= 0;
        while (at >= 0) {
            named.set(at, at + sentence.length());
            at = text.indexOf(sentence, at + 1);
        }
        return found;
    }

    private static String unnamed(String text, BitSet named) {
        StringBuilder left = new StringBuilder();
        for (int i = 0; i < text.length(); i++) {
            if (!named.get(i)) {
                left.append(text.charAt(i));
            }
        }
        return left.toString().trim();
    }

    /** By the number of the promise, its text behind the signature; the Terms by 0. */
    private static TreeMap<Integer, String> sections() {
        TreeMap<Integer, String> all = new TreeMap<>();
        Matcher terms = Pattern.compile("(?s)\n## Terms\n(.*?)(?=\n## )").matcher(document());
        while (terms.find()) {
            String text = terms.group(1).replaceAll("(?m)^(```.*|Ahead of the calls .*)$", "").replaceAll("(?m)^=+ \\d ", "");
            all.put(TERMS, plain(text));
        }
        Matcher promises = Pattern.compile("(?s)\n## Promise (\\d+): .*?\n\n`.*?`: (.*?)(?=\n## )").matcher(document());
        while (promises.find()) {
            all.put(Integer.valueOf(promises.group(1)), plain(promises.group(2)));
        }
        return all;
    }

    private static String document() {
        try {
            return Files.readString(DOC);
        } catch (IOException missing) {
            throw new IllegalStateException("there is no " + DOC, missing);
        }
    }

    private static String plain(String text) {
        return text.replaceAll("\\s+", " ").trim();
    }
}
