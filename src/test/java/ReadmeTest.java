import java.io.ByteArrayOutputStream;
import java.io.IOException;
import java.io.PrintStream;
import java.nio.file.Files;
import java.nio.file.Path;
import java.util.ArrayList;
import java.util.List;
import java.util.Map;
import java.util.TreeMap;
import java.util.TreeSet;
import java.util.regex.Matcher;
import java.util.regex.Pattern;

/** What README.md says: its example, its table of calls and its table of tests. */
public final class ReadmeTest {
    private static final String FINDINGS = "BEYOND|MISSING|SIZE|KIND|FULL|NONE";
    private static final Pattern PROMISE = Pattern.compile("## Promise \\d+: [^\n]*\n\n`int (\\w+)\\([^`]*`: ([^\n]*)");

    private final String page;

    private ReadmeTest(String page) {
        this.page = page;
    }

    public static void main(String[] args) throws IOException {
        ReadmeTest test = new ReadmeTest(Files.readString(Pages.README));
        test.exampleStandsHere();
        test.examplePrintsWhatItSays();
        test.everyCallIsTold();
        test.findingsAreTold();
        test.numbersOfFindings();
        test.everyTestIsTold();
        test.everyHelperIsTold();
        test.filesAreThere();
        Check.end();
    }

    private static void example() {
        DubDesk desk = new DubDesk();
        int line = desk.line(0);                            // a line of part 0
        for (int shape : new int[] {0, 1, 1, 0, 2}) {
            desk.frame(line, shape);                        // the shapes of the lips, frame by frame
        }
        int wording = desk.wording(line, 0, 50);            // of kind 0, with a sense of 50
        desk.syllable(wording, 1, 1, 3, 5);                 // shape 1 on 1 to 3 frames, word 5
        desk.syllable(wording, 2, 1, 2, 6);                 // shape 2 on 1 to 2 frames, word 6
        System.out.println(desk.cost(wording));             // 0
        System.out.println(desk.place(wording, 0, false));  // 1
        System.out.println(desk.place(wording, 0, true));   // 2
        System.out.println(desk.on(wording, 3));            // -1

        desk.text(0, 0, 5, 10);                             // land 0 bars word 5 from day 10 on
        System.out.println(desk.best(line, 0, 9));          // 0
        System.out.println(desk.best(line, 0, 10));         // -100006

        desk.actor(0, 3);                                   // part 0 is spoken by actor 3,
        desk.free(3, 6);                                    // who is free on the days of work 1 and 2
        desk.loop(1);                                       // a loop of line 0 alone
        System.out.println(desk.plan());                    // 1
        System.out.println(desk.planned(0));                // 1
        System.out.println(desk.plans());                   // 2

        desk.sheet(0, 8, 3);                                // three numbers of 8 bits
        desk.put(0, 0, 1);                                  // now 1, 0, 0
        System.out.println(desk.change(line, 0));           // 2
        System.out.println(desk.undo());                    // 13
        System.out.println(desk.told(line, 1));             // 5
        System.out.println(desk.all(4));                    // 1
    }

    private String block() {
        int from = page.indexOf("```java\n") + 8;
        return page.substring(from, page.indexOf("```", from));
    }

    private void exampleStandsHere() throws IOException {
        String own = Files.readString(Pages.TESTS.resolve("ReadmeTest.java"));
        String body = block().replaceAll("(?m)^(?=.)", "        ");
        Check.due("the example stands in this test", own.contains("void example() {\n" + body + "    }\n") ? 1 : 0, 1);
    }

    private void examplePrintsWhatItSays() {
        ByteArrayOutputStream printed = new ByteArrayOutputStream();
        PrintStream out = System.out;
        System.setOut(new PrintStream(printed, true));
        example();
        System.setOut(out);
        String[] answers = printed.toString().trim().split("\\s+");
        Matcher line = Pattern.compile("println\\((.*)\\); +// (-?\\d+)\n").matcher(block());
        int i = 0;
        while (line.find()) {
            Check.due(line.group(1), i < answers.length ? Integer.parseInt(answers[i]) : 0, Integer.parseInt(line.group(2)));
            i++;
        }
        Check.due("as many answers", i, answers.length);
        Check.due("answers in the example", i, block().split("println").length - 1);
    }

    /** The rows of the table of calls: a call with its parameters, and its findings in order. */
    private Map<String, String> calls() {
        Map<String, String> rows = new TreeMap<>();
        Matcher row = Pattern.compile("(?m)^\\| `(\\w+\\([^)]*\\))` \\| [^|]+ \\| ([^|]*)\\|$").matcher(page);
        while (row.find()) {
            rows.put(row.group(1), row.group(2).trim());
        }
        return rows;
    }

    private void everyCallIsTold() throws IOException {
        TreeSet<String> told = new TreeSet<>(calls().keySet());
        for (String head : Pages.face()) {
            String call = head.replaceFirst("int ", "").replaceAll("(int|boolean) ", "");
            Check.due("README tells " + call, told.remove(call) ? 1 : 0, 1);
        }
        Check.due("calls that are none: " + told, told.size(), 0);
    }

    private void findingsAreTold() throws IOException {
        Map<String, String> rows = new TreeMap<>();
        calls().forEach((call, findings) -> rows.put(call.replaceFirst("\\(.*", ""), findings));
        Matcher promise = PROMISE.matcher(Pages.document());
        int seen = 0;
        while (promise.find()) {
            List<String> findings = new ArrayList<>();
            Matcher finding = Pattern.compile("\\. (" + FINDINGS + ")\\b").matcher(promise.group(2));
            while (finding.find()) {
                findings.add(finding.group(1));
            }
            String due = String.join(", ", findings);
            String told = rows.get(promise.group(1));
            Check.due("findings of " + promise.group(1) + ": " + told + ", due are " + due, due.equals(told) ? 1 : 0, 1);
            seen++;
        }
        Check.due("promises with a call", seen, 34);
    }

    private void numbersOfFindings() throws IOException {
        Matcher number = Pattern.compile("-10000\\d (" + FINDINGS + ")").matcher(Pages.document());
        int seen = 0;
        while (number.find()) {
            Check.due("README tells " + number.group(), page.replace("\n", " ").contains(number.group()) ? 1 : 0, 1);
            seen++;
        }
        Check.due("findings", seen, 6);
    }

    private void everyTestIsTold() throws IOException {
        TreeSet<String> told = new TreeSet<>();
        Matcher row = Pattern.compile("(?m)^\\| (\\w+Test) \\|").matcher(page);
        while (row.find()) {
            told.add(row.group(1));
        }
        TreeSet<String> there = new TreeSet<>(Pages.classesOf(Pages.TESTS));
        Check.due("tests told: " + told + ", there: " + there, told.equals(there) ? 1 : 0, 1);
    }

    private void everyHelperIsTold() throws IOException {
        String last = page.substring(page.indexOf("What the tests share"));
        for (String helper : Pages.classesOf(Pages.HELPERS)) {
            Check.due("README tells " + helper, last.contains("`" + helper + "`") ? 1 : 0, 1);
        }
    }

    private void filesAreThere() {
        Matcher path = Pattern.compile("(?<![\\w/.])(\\.\\./shared|\\.ci|src)(/[\\w.]+)+").matcher(page);
        int seen = 0;
        while (path.find()) {
            Check.due(path.group() + " is there", Files.exists(Path.of(path.group())) ? 1 : 0, 1);
            seen++;
        }
        Check.due("paths", seen >= 8 ? 1 : 0, 1);
    }
}
