import java.io.IOException;
import java.nio.file.Files;
import java.nio.file.Path;
import java.util.List;

/** The class keeps to ../shared/LANGUAGE.md; and what looks at that finds a fault of each rule that it knows. */
public final class LanguageTest {
    private static final Path SOURCE = Path.of("src/main/java/LostParcels.java");
    private static int wrong = 0;
    private static int samples = 0;

    public static void main(String[] args) throws IOException {
        String source = Files.readString(SOURCE);
        List<String> faults = Language.faultsOf(source);
        faults.forEach(LanguageTest::tell);
        if (source.lines().anyMatch(line -> line.length() > 120)) {
            tell("lines of 120 signs at most");
        }
        if (faults.isEmpty()) {
            trySamples(source);
        }
        System.out.println(samples + " samples, " + wrong + " faults");
        if (wrong != 0) {
            System.exit(1);
        }
    }

    private static void tell(String fault) {
        wrong++;
        System.out.println(fault);
    }

    /** The class with one member more, which breaks one rule. */
    private static void sample(String source, int rule, String member) throws IOException {
        samples++;
        int end = source.lastIndexOf('}');
        List<String> faults = Language.faultsOf(source.substring(0, end) + member + "\n}\n");
        if (faults.size() != 1 || !faults.get(0).startsWith("rule " + rule + ",")) {
            tell("rule " + rule + " isn't seen to be broken by: " + member + ": " + faults);
        }
    }

    private static void trySamples(String source) throws IOException {
        sample(source, 1, "int open() { return 0; }");
        sample(source, 1, "int open = 0;");
        sample(source, 1, "private int thing(int a) { return a; }");
        sample(source, 1, "public static final class Open { }");
        sample(source, 2, "private final class Inner { }");
        sample(source, 2, "private int odd() { class Here { } return 0; }");
        sample(source, 2, "private interface One { int of(int a); } private int odd() { One o = a -> a; return 0; }");
        sample(source, 2, "private interface One { int of(int a); } private int odd() { One o = Math::abs; return 0; }");
        sample(source, 3, "private final Object some = null;");
        sample(source, 3, "private final ArrayList<String> some = new ArrayList<>();");
        sample(source, 3, "private final int[][][] some = null;");
        sample(source, 4, "private int odd() { return Math.addExact(1, 2); }");
        sample(source, 4, "private int odd() { return (int) System.nanoTime(); }");
        sample(source, 4, "private int odd() { Arrays.sort(waiting); return 0; }");
        sample(source, 4, "private int odd() { return things.indexOf(null); }");
        sample(source, 4, "private int odd() { return seekers.hashCode(); }");
        sample(source, 5, "private static int some = 0;");
        sample(source, 5, "private static final int[] SOME = new int[4];");
        sample(source, 5, "static { }");
        sample(source, 5, "private int odd() { TENS[0] = 2; return 0; }");
        sample(source, 5, "private int odd() { TENS[0]++; return 0; }");
        sample(source, 5, "private int odd() { TENS[0] += 2; return 0; }");
        sample(source, 6, "private int odd() { throw null; }");
        sample(source, 6, "private int odd() { try { today = 0; } finally { today = 1; } return 0; }");
        sample(source, 6, "private int odd() { synchronized (this) { return 0; } }");
        sample(source, 6, "private int odd() { assert today > 0; return 0; }");
        sample(source, 6, "private int odd(Thing thing) { return ((Purse) thing).counts[0]; }");
        sample(source, 6, "private boolean odd(String a, String b) { return a == b; }");
        sample(source, 7, "private int odd(int a) { return (new int[a]).length; }");
        sample(source, 8, "private int odd(int a) { return a <= 0 ? 0 : odd(a - 1); }");
        sample(source, 9, "private int odd() { while (true) { if (today > 0) { return 0; } } }");
        sample(source, 9, "private int odd() { for (;;) { if (today > 0) { return 0; } } }");
        sample(source, 10, "private int odd(String a) { return (a + 1).length(); }");
        sample(source, 11, "private int odd(int a, int b, int c, int d, int e, int f, int g, int h) { return a; }");
        sample(source, 11, "private int odd() {" + "\n".repeat(60) + "return 0; }");
        sample(source, 12, "private int odd() { for (Thing each : things) { return each.kind; } return 0; }");
        sample(source, 13, "private volatile int some = 0;");
    }
}
