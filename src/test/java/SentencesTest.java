import java.io.IOException;
import java.lang.reflect.Method;
import java.nio.file.Files;
import java.nio.file.Path;
import java.util.ArrayList;
import java.util.List;
import java.util.regex.Matcher;
import java.util.regex.Pattern;

/**
 * That each sentence of ../shared/DOC.md which names an edge has a test of its own: each clause of the terms, and each
 * line of a promise that names a range or an exception. Also that what the tests quote stands in the document.
 */
public final class SentencesTest {
    private static final Path DOCUMENT = Path.of("../shared/DOC.md");

    /** Clauses of the terms that name no edge. */
    private static final List<String> WITHOUT_AN_EDGE = List.of("Stores, customers, nominations, leaks, laws, prices",
            "pressures, rates, inventories, causes and worths are asked", "Gas is in whole units", "Hours are counted",
            "An hour goes by so");

    public static void main(String[] args) throws IOException {
        if (!Files.exists(DOCUMENT)) {
            System.out.println("0 checks, there is no " + DOCUMENT);
            return;
        }
        String document = Files.readString(DOCUMENT);
        eachLineOfAPromise(document);
        eachClauseOfTheTerms(document);
        eachQuoteStandsThere(document);
        Check.end();
    }

    private static String terms(String document) {
        return plain(document.substring(document.indexOf("## Terms"), document.indexOf("The constants:")));
    }

    private static String promise(String document, int number) {
        int from = document.indexOf("## Promise " + number + ":");
        int to = document.indexOf("\n## ", from + 1);
        return document.substring(from, to);
    }

    private static String plain(String text) {
        return text.replaceAll("\\s+", " ").trim();
    }

    /** What the tests quote of a promise; of 0 what they quote of the terms. */
    private static List<String> quotes(int promise) {
        List<String> quotes = new ArrayList<>();
        for (Class<?> tests : Sentences.TESTS) {
            for (Method m : Sentences.of(tests)) {
                Says says = m.getAnnotation(Says.class);
                for (int p : says.promise()) {
                    if (p == promise) {
                        quotes.addAll(List.of(says.value()));
                    }
                }
            }
        }
        return quotes;
    }

    private static void eachLineOfAPromise(String document) {
        Pattern edge = Pattern.compile("(?m)^- (`.*)$|^(Throws .*)$|(@throws .*)$");
        for (int promise = 1; promise <= 22; promise++) {
            List<String> quotes = quotes(promise);
            Check.same("promise " + promise + " is quoted", quotes.isEmpty() ? 0 : 1, 1);
            for (Matcher m = edge.matcher(promise(document, promise)); m.find();) {
                String line = m.group(1) != null ? m.group(1) : m.group(2) != null ? m.group(2) : m.group(3);
                Check.same("promise " + promise + ", a test of: " + line, quotes.contains(line.trim()) ? 1 : 0, 1);
            }
        }
    }

    private static void eachClauseOfTheTerms(String document) {
        List<String> quotes = new ArrayList<>();
        for (String quote : quotes(0)) {
            quotes.addAll(clauses(quote));
        }
        for (String clause : clauses(terms(document))) {
            if (WITHOUT_AN_EDGE.stream().noneMatch(clause::startsWith)) {
                Check.same("a test of: " + clause, quotes.stream().anyMatch(clause::contains) ? 1 : 0, 1);
            }
        }
    }

    /** Without headings and the numbers of steps. */
    private static List<String> clauses(String text) {
        List<String> clauses = new ArrayList<>();
        for (String clause : text.replaceAll("#+ [A-Z][A-Za-z, ]*? (?=[A-Z])", "").split("; |(?<=[.:]) (?=[A-Z0-9])")) {
            String bare = clause.replaceAll("[;.:,]$", "");
            if (bare.length() > 1) {
                clauses.add(bare);
            }
        }
        return clauses;
    }

    private static void eachQuoteStandsThere(String document) {
        for (int promise = 0; promise <= 22; promise++) {
            String text = promise == 0 ? terms(document) : plain(promise(document, promise));
            for (String quote : quotes(promise)) {
                Check.same("promise " + promise + " says: " + quote, text.contains(plain(quote)) ? 1 : 0, 1);
            }
        }
    }
}
