import java.io.IOException;
import java.util.LinkedHashMap;
import java.util.LinkedHashSet;
import java.util.Map;
import java.util.Set;
import java.util.regex.Matcher;
import java.util.regex.Pattern;

/** Runs a test for each sentence of the document, and fails for a sentence that has none or does not stand there. */
final class Sentences {
    private static final Pattern PROMISE = Pattern.compile("## Promise (\\d+): [^\n]*\n\n`[^`]*`: ([^\n]*)");
    private static final Pattern END = Pattern.compile("(?<=[^.]\\.\\)?) (?=[A-Z(])");
    private static final Pattern FINDING = Pattern.compile("^(BEYOND|MISSING|SIZE|KIND|FULL|NONE)\\b.*");

    private final Map<String, Set<String>> untested = new LinkedHashMap<>();

    Sentences() throws IOException {
        String text = Pages.document();
        Matcher promise = PROMISE.matcher(text);
        while (promise.find()) {
            readPromise("Promise " + promise.group(1), promise.group(2));
        }
        readTerms(text.substring(text.indexOf("## Terms"), text.indexOf("Ahead of the calls")));
        Check.due("chapters of the document", untested.size(), 35 + 6);
    }

    private void readPromise(String chapter, String text) {
        Set<String> sentences = read(chapter, text);
        Set<String> findings = new LinkedHashSet<>();
        for (String sentence : sentences) {
            Matcher finding = FINDING.matcher(sentence);
            if (finding.matches()) {
                findings.add(finding.group(1));
            }
        }
        if (findings.size() > 1) {
            sentences.add("the order of its findings");
        }
    }

    private void readTerms(String text) {
        String[] items = text.replace("## Terms", "").replaceAll("```(text)?", "").split("\n(?=\\d\\. )");
        for (int i = 0; i < items.length; i++) {
            read("Terms " + i, items[i].replaceFirst("^\\d\\. ", ""));
        }
    }

    private Set<String> read(String chapter, String text) {
        Set<String> sentences = new LinkedHashSet<>();
        for (String sentence : END.split(text.replaceAll("\\s+", " ").trim())) {
            sentences.add(sentence);
        }
        untested.put(chapter, sentences);
        return sentences;
    }

    void promise(int number, String sentence, Runnable test) {
        run("Promise " + number, sentence, test);
    }

    void order(int promise, Runnable test) {
        run("Promise " + promise, "the order of its findings", test);
    }

    /** A sentence of the terms is told by its beginning: some are long. */
    void term(int item, String beginning, Runnable test) {
        String whole = beginning;
        for (String sentence : untested.get("Terms " + item)) {
            whole = sentence.startsWith(beginning) ? sentence : whole;
        }
        run("Terms " + item, whole, test);
    }

    private void run(String chapter, String sentence, Runnable test) {
        boolean stands = untested.get(chapter).remove(sentence);
        Check.due(chapter + " has: " + sentence, stands ? 1 : 0, 1);
        int before = Check.wrong();
        test.run();
        if (Check.wrong() > before) {
            System.out.println("  (" + chapter + ": " + sentence + ")");
        }
    }

    void endOfPromises(int from, int to) {
        for (int number = from; number <= to; number++) {
            endOf("Promise " + number);
        }
    }

    void endOfTerms(int item) {
        endOf("Terms " + item);
    }

    private void endOf(String chapter) {
        for (String sentence : untested.get(chapter)) {
            Check.due(chapter + " has a test for: " + sentence, 0, 1);
        }
    }
}
