import java.io.IOException;
import java.io.UncheckedIOException;
import java.nio.file.Files;
import java.nio.file.Path;
import java.util.LinkedHashMap;
import java.util.Map;
import java.util.function.Supplier;
import java.util.regex.Matcher;
import java.util.regex.Pattern;

/**
 * The document's sentences, each with the calls that hold it. A test quotes the words that it holds; words that no test
 * quotes, and quotes behind which nothing is asked, are told at the end.
 */
final class Sentences {
    private static final Path DOCUMENT = Path.of("../shared/DOC.md");
    private static final int PROMISES = 69;

    private final Map<String, String> texts = new LinkedHashMap<>();
    private final Map<String, boolean[]> quoted = new LinkedHashMap<>();
    private final Due due = new Due();
    private String section = "";
    private String words = "";
    private int askedBefore;

    Sentences() {
        String document;
        try {
            document = Files.readString(DOCUMENT);
        } catch (IOException e) {
            throw new UncheckedIOException(e);
        }
        find(document, "(?m)^([IVX]+)\\. (.*)$");
        find(document, "(?m)^  ([A-Z]+)(?:,| 0 \\.\\. 3) (.*)$");
        find(document, "(?m)^## Promise (\\d+): .*\\n\\n`[^`]*`: (.*)$");
        for (Map.Entry<String, String> entry : texts.entrySet()) {
            quoted.put(entry.getKey(), new boolean[entry.getValue().length()]);
        }
        if (texts.size() != PROMISES + 12) {
            throw new IllegalStateException("sections found: " + texts.keySet());
        }
    }

    private void find(String document, String pattern) {
        Matcher matcher = Pattern.compile(pattern).matcher(document);
        while (matcher.find()) {
            texts.put(matcher.group(1), matcher.group(2));
        }
    }

    /** The promise whose words are quoted from here on. */
    void of(int promise) {
        of(Integer.toString(promise));
    }

    /** The term, I to IX, TOKENS, FAULTS or SLOTS, whose words are quoted from here on. */
    void of(String term) {
        closeWords();
        section = term;
        words = "";
    }

    /** The words that the calls from here on hold. */
    void says(String quote) {
        closeWords();
        words = quote;
        askedBefore = due.asked();
        due.about((section.matches("\\d+") ? "promise " : "term ") + section + ", '" + quote + "'");
        String text = texts.get(section);
        int from = text == null ? -1 : text.indexOf(quote);
        if (from < 0) {
            due.fail("the document has no such words");
            return;
        }
        for (int i = from; i < from + quote.length(); i++) {
            quoted.get(section)[i] = true;
        }
    }

    private void closeWords() {
        if (!words.isEmpty() && due.asked() == askedBefore) {
            due.fail("nothing is asked behind these words");
        }
    }

    void is(String what, long got, long want) {
        due.is(what, got, want);
    }

    void all(WidowRoads x, String rows) {
        due.all(x, rows);
    }

    /** Calls on a new object with a colony told. */
    void told(String text, String rows) {
        due.all(Due.told(text), rows);
    }

    /** A text that is no colony: which fault it has, and where. */
    void fault(String text, int which, int place) {
        WidowRoads x = new WidowRoads();
        due.is("colony() of " + text, Due.tell(x, text), -4);
        due.is("fault(0) of " + text, x.fault(0), which);
        due.is("fault(1) of " + text, x.fault(1), place);
    }

    /** A text that is a colony: how many lines. */
    void lines(String text, int lines) {
        WidowRoads x = new WidowRoads();
        due.is("colony() of " + text, Due.tell(x, text), lines);
        due.is("fault(0) of " + text, x.fault(0), 0);
        due.is("fault(1) of " + text, x.fault(1), -1);
    }

    /** One call, with each of some values in place of its #, on the rich history: refused, and all stays. */
    void refuses(long code, String call, String values) {
        for (String value : values.split(" ")) {
            refusesBehind(Histories::rich, code, call.replace("#", value));
        }
    }

    /** A call without a colony, on a new object and where there was one: refused, and all stays. */
    void refusesWithoutColony(long code, String call) {
        refusesBehind(WidowRoads::new, code, call);
        refusesBehind(Histories::none, code, call);
    }

    /** A call behind a history answers as told, and behind it all is as if it had not been. */
    void refusesBehind(Supplier<WidowRoads> history, long code, String call) {
        WidowRoads x = history.get();
        due.is(call, Due.answer(x, call), code);
        String[] with = Histories.probe(x);
        String[] without = Histories.probe(history.get());
        for (int i = 0; i < with.length; i++) {
            due.same("behind " + call, with[i], without[i]);
        }
    }

    void finish() {
        closeWords();
        for (Map.Entry<String, String> entry : texts.entrySet()) {
            String left = unquoted(entry.getValue(), quoted.get(entry.getKey()));
            if (!left.isEmpty()) {
                due.about("section " + entry.getKey());
                due.fail("no test speaks of: " + left);
            }
        }
        due.finish();
    }

    private static String unquoted(String text, boolean[] marks) {
        StringBuilder left = new StringBuilder();
        for (int i = 0; i < text.length(); i++) {
            if (!marks[i] && Character.isLetterOrDigit(text.charAt(i))) {
                left.append(text.charAt(i));
            } else if (left.length() > 0 && left.charAt(left.length() - 1) != ' ') {
                left.append(' ');
            }
        }
        return left.toString().trim();
    }
}
