import java.io.IOException;
import java.nio.file.Files;
import java.nio.file.Path;
import java.util.ArrayList;
import java.util.HashMap;
import java.util.HashSet;
import java.util.List;
import java.util.Map;
import java.util.Set;
import java.util.TreeSet;
import java.util.regex.Matcher;
import java.util.regex.Pattern;
import java.util.stream.Collectors;
import java.util.stream.Stream;

/** README.md: each line of its example answers what is written behind it, and it names the tests that there are. */
public final class ReadmeTest {
    private static final Pattern MADE = Pattern.compile("LostParcels depot = new LostParcels\\(\\);");
    private static final Pattern CALL =
            Pattern.compile("(?:int (\\w+) = )?depot\\.(\\w+)\\(([^()]*)\\); +// (-?\\d+)(?:: .+)?");

    private final Map<String, Integer> named = new HashMap<>();
    private LostParcels depot = null;
    private int calls = 0;
    private int wrong = 0;

    public static void main(String[] args) throws IOException {
        new ReadmeTest().hold(Files.readAllLines(Path.of("README.md")));
    }

    private void hold(List<String> lines) throws IOException {
        String text = String.join("\n", lines);
        for (String line : example(lines)) {
            holdLine(line);
        }
        need(calls >= 10, "an example of some calls");
        Set<String> inTable = actsInTable(lines);
        need(inTable.equals(actsOfDocument()), "its table tells the acts of the class: " + inTable);
        need(text.contains("\n    .ci/run\n"), "it tells how tests are run");
        Set<String> tests = testsThatAre();
        need(testsThatAreNamed(text).equals(tests), "it names the tests that there are: " + tests);
        System.out.println(calls + " calls of the example, " + wrong + " wrong");
        if (wrong != 0) {
            System.exit(1);
        }
    }

    private void need(boolean holds, String what) {
        if (!holds) {
            wrong++;
            System.out.println("README.md: not so: " + what);
        }
    }

    private static List<String> example(List<String> lines) {
        List<String> some = new ArrayList<>();
        boolean inside = false;
        for (String line : lines) {
            boolean fence = line.startsWith("```");
            if (inside && !fence && !line.isBlank()) {
                some.add(line);
            }
            inside = fence ? line.equals("```java") : inside;
        }
        return some;
    }

    private void holdLine(String line) {
        if (MADE.matcher(line).matches()) {
            depot = new LostParcels();
            return;
        }
        Matcher call = CALL.matcher(line);
        if (depot == null || !call.matches() || !isTold(call.group(3))) {
            need(false, "a call with its answer: " + line);
            return;
        }
        int answer = Run.on(depot, call.group(2), numbers(call.group(3)));
        calls++;
        need(answer == Integer.parseInt(call.group(4)), line + " answered " + answer);
        if (call.group(1) != null) {
            named.put(call.group(1), answer);
        }
    }

    private static Stream<String> parts(String arguments) {
        return Stream.of(arguments.split(",")).map(String::trim).filter(part -> !part.isEmpty());
    }

    private boolean isTold(String arguments) {
        return parts(arguments).allMatch(part -> named.containsKey(part) || part.matches("-?\\d{1,9}"));
    }

    private int[] numbers(String arguments) {
        return parts(arguments).mapToInt(part -> named.containsKey(part) ? named.get(part) : Integer.parseInt(part))
                .toArray();
    }

    /** Acts stand in the table as `name(` or `name()`. */
    private static Set<String> actsInTable(List<String> lines) {
        Set<String> acts = new TreeSet<>();
        for (String line : lines) {
            Matcher act = Pattern.compile("`(\\w+)\\([^`]*`").matcher(line);
            while (line.startsWith("|") && act.find()) {
                acts.add(act.group(1));
            }
        }
        return acts;
    }

    private static Set<String> actsOfDocument() {
        return Stream.of(LostParcels.class.getMethods()).filter(m -> m.getDeclaringClass() == LostParcels.class)
                .map(m -> m.getName()).collect(Collectors.toCollection(TreeSet::new));
    }

    private static Set<String> testsThatAre() throws IOException {
        try (Stream<Path> files = Files.list(Path.of("src/test/java"))) {
            return files.map(file -> file.getFileName().toString()).filter(name -> name.endsWith("Test.java"))
                    .map(name -> name.substring(0, name.length() - ".java".length())).collect(Collectors.toSet());
        }
    }

    private static Set<String> testsThatAreNamed(String text) {
        Set<String> names = new HashSet<>();
        Matcher name = Pattern.compile("\\b[A-Z]\\w*Test\\b").matcher(text);
        while (name.find()) {
            names.add(name.group());
        }
        return names;
    }
}
