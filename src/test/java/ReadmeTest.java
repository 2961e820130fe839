import java.io.IOException;
import java.nio.file.Files;
import java.nio.file.Path;
import java.util.Map;
import java.util.regex.Matcher;
import java.util.regex.Pattern;

/** README.md: its run of calls answers what it says, and it names every call and every finding. */
public final class ReadmeTest {
    private static final Map<String, Long> FINDINGS = Map.of("BEYOND", Due.BEYOND, "MISSING", Due.MISSING,
        "SIZE", Due.SIZE, "KIND", Due.KIND, "FULL", Due.FULL, "NONE", Due.NONE);
    /** A call with what it answers, and words behind a colon. */
    private static final Pattern EXAMPLE = Pattern.compile("desk\\.(\\w+\\(.*?\\)); +// (\\d+|[A-Z]+): .+");
    private static final int LEAST_EXAMPLES = 30;

    private static final Due DUE = new Due();

    public static void main(String[] args) throws IOException {
        Path root = Path.of(System.getProperty("shirelines.source")).resolve("../../../..").normalize();
        String page = Files.readString(root.resolve("README.md"));
        theRunOfCalls(page);
        everyCall(page);
        everyFinding(page);
        DUE.end();
    }

    private static void theRunOfCalls(String page) {
        ShireLines desk = new ShireLines();
        PlainDesk model = new PlainDesk();
        int examples = 0;
        for (String line : page.split("\n")) {
            if (line.startsWith("desk.")) {
                Matcher example = EXAMPLE.matcher(line);
                boolean isExample = example.matches();
                DUE.isTrue("README.md: " + line + " is a call with its answer", isExample);
                if (isExample) {
                    examples++;
                    Call call = Call.of(example.group(1));
                    String said = example.group(2);
                    long want = FINDINGS.containsKey(said) ? FINDINGS.get(said) : Long.parseLong(said);
                    DUE.is("README.md: " + call, call.on(desk), want);
                    DUE.is("README.md: " + call + " in the plain model", call.on(model), want);
                }
            }
        }
        DUE.isTrue("README.md shows how to use the class", examples >= LEAST_EXAMPLES);
    }

    private static void everyCall(String page) {
        for (String name : Call.NAMES) {
            DUE.isTrue("README.md tells of " + name, page.contains("\n| `" + name + "("));
        }
        DUE.isTrue("README.md tells of a new object", page.contains("`new ShireLines()`"));
        DUE.isTrue("README.md tells how to run the tests", page.contains("\n.ci/run\n"));
    }

    private static void everyFinding(String page) {
        for (Map.Entry<String, Long> finding : FINDINGS.entrySet()) {
            String row = "\n| " + finding.getKey() + " | " + finding.getValue() + " | ";
            DUE.isTrue("README.md tells what " + finding.getKey() + " means", page.contains(row));
        }
    }
}
