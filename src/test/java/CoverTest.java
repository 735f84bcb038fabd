import java.io.IOException;
import java.lang.reflect.Method;
import java.nio.file.Files;
import java.nio.file.Path;
import java.util.ArrayList;
import java.util.List;
import java.util.Map;
import java.util.TreeMap;
import java.util.regex.Matcher;
import java.util.regex.Pattern;

/** Holds the tests of boundary cases against the document: each sentence has one, and each quotes what stands there. */
public final class CoverTest {
    private static final Class<?>[] EDGES = {LineEdgesTest.class, ActsEdgesTest.class, AheadEdgesTest.class,
        TestingEdgesTest.class, ChanceEdgesTest.class, SlotsEdgesTest.class};
    private static final Map<String, Integer> ANSWERS = Map.of("UNKNOWN", -1, "BAD", -2, "LATE", -3, "FULL", -4);
    /** Words of the document that no test can break. */
    private static final List<String> FREE = List.of("what later calls answer is free");

    private record Quote(int promise, String says, String who) { }

    private final Checks checks = new Checks();
    private final List<Quote> quotes = new ArrayList<>();
    private final TreeMap<Integer, String> promises = new TreeMap<>();
    private final String terms;

    private CoverTest(String document) {
        Matcher parts = Pattern.compile("(?s)## Promise (\\d+): [^\n]*\n(.*?)(?=\n## |$)").matcher(document);
        while (parts.find()) {
            promises.put(Integer.parseInt(parts.group(1)), parts.group(2));
        }
        String shared = document.substring(document.indexOf("======== 1"), document.indexOf("Ahead of the calls"));
        int face = shared.indexOf("## The public face");
        terms = shared.substring(0, face) + shared.substring(shared.indexOf("## Terms"));
    }

    public static void main(String[] args) throws IOException {
        String path = System.getProperty("document", "../shared/DOC.md");
        CoverTest cover = new CoverTest(Files.readString(Path.of(path)));
        cover.collect();
        cover.quotesStandInTheDocument();
        cover.sentencesAreQuoted();
        cover.refusalsAreTried();
        cover.checks.finish("CoverTest");
    }

    private void collect() {
        for (Class<?> edges : EDGES) {
            for (Method test : Edges.testsOf(edges)) {
                Holds holds = test.getAnnotation(Holds.class);
                quotes.add(new Quote(holds.promise(), holds.says(), test.getName()));
            }
        }
        for (RefusalsTest.Refusal one : RefusalsTest.all()) {
            quotes.add(new Quote(one.promise(), one.says(), one.call()));
        }
    }

    private void quotesStandInTheDocument() {
        for (Quote quote : quotes) {
            String promise = promises.getOrDefault(quote.promise, "");
            checks.isTrue(quote.who + " quotes what stands nowhere for promise " + quote.promise + ": " + quote.says,
                promise.contains(quote.says) || terms.contains(quote.says));
        }
    }

    private void sentencesAreQuoted() {
        checks.due("promises", 35, promises.size());
        promises.forEach((number, text) -> {
            for (String clause : clausesOf(text)) {
                checks.isTrue("promise " + number + " has no test of: " + clause, isQuoted(clause, number));
            }
        });
        for (String clause : clausesOf(terms)) {
            checks.isTrue("no test of: " + clause, isQuoted(clause, 0));
        }
    }

    /** A refusal that a promise names is tried by that promise's rows of RefusalsTest. */
    private void refusalsAreTried() {
        List<RefusalsTest.Refusal> refusals = RefusalsTest.all();
        promises.forEach((number, text) -> ANSWERS.forEach((word, answer) -> {
            boolean named = Pattern.compile("\\b" + word + "\\b").matcher(text).find();
            boolean tried = refusals.stream().anyMatch(one -> one.promise() == number && one.answer() == answer);
            checks.isTrue("promise " + number + ", " + word + ": named " + named + ", tried " + tried, named == tried);
        }));
    }

    private boolean isQuoted(String clause, int promise) {
        return FREE.contains(clause) || quotes.stream().anyMatch(quote -> (promise == 0 || quote.promise == promise)
            && clausesOf(quote.says).stream().anyMatch(part -> part.contains(clause) || clause.contains(part)));
    }

    /** What stands between full stops, semicolons and ends of lines; ".." is no full stop. */
    private static List<String> clausesOf(String text) {
        List<String> clauses = new ArrayList<>();
        for (String part : text.split("(?<=[^.\\s])[.;](?=\\s|$|\\))|\n")) {
            String clause = part.replaceAll("^=+ \\d|^`[^`]*`:|^\\s*\\(", "").trim();
            if (clause.length() > 1 && !clause.startsWith("```") && !clause.startsWith("##")) {
                clauses.add(clause);
            }
        }
        return clauses;
    }
}
