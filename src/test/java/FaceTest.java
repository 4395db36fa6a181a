import java.io.IOException;
import java.lang.reflect.Constructor;
import java.lang.reflect.Field;
import java.lang.reflect.Method;
import java.lang.reflect.Modifier;
import java.nio.file.Files;
import java.nio.file.Path;
import java.util.ArrayList;
import java.util.Arrays;
import java.util.HashSet;
import java.util.List;
import java.util.Map;
import java.util.Set;
import java.util.TreeMap;
import java.util.regex.Matcher;
import java.util.regex.Pattern;

/** The public face: as it is compiled, and as it is written. */
public final class FaceTest {
    private static final String FACE = "thing 5 as 2 trait 3 about 2 day 1 spoil 1 known 2 seeker 1 word 3 span 3 points 2"
            + " likeness 2 chance 2 match 1 seen 2 answer 3 back 1 address 2 post 2 fits 3 likely 3 share 3 law 2"
            + " sellable 0 sell 2 sold 1 owed 3 lots 4 sorted 2 sorter 2 money 3 counted 1 burst 3 tell 1 check 0"
            + " count 1 found 1";
    private static final Path DOCUMENT = Path.of("../shared/DOC.md");

    private static int wrong = 0;

    public static void main(String[] args) throws IOException {
        checkFace();
        checkDocument(Files.readString(Path.of("src/main/java/LostParcels.java")));
        System.out.println(wrong == 0 ? "the face is as told" : wrong + " faults");
        if (wrong != 0) {
            System.exit(1);
        }
    }

    private static void need(boolean holds, String what) {
        if (!holds) {
            wrong++;
            System.out.println("not so: " + what);
        }
    }

    private static void checkFace() {
        Class<?> face = LostParcels.class;
        need(Modifier.isPublic(face.getModifiers()) && Modifier.isFinal(face.getModifiers()), "public and final");
        Map<String, Integer> want = new TreeMap<>();
        String[] words = FACE.split(" ");
        for (int i = 0; i < words.length; i += 2) {
            want.put(words[i], Integer.parseInt(words[i + 1]));
        }
        Map<String, Integer> got = new TreeMap<>();
        Set<String> hidden = new HashSet<>();
        for (Method m : face.getDeclaredMethods()) {
            if (Modifier.isPrivate(m.getModifiers())) {
                hidden.add(m.getName());
                continue;
            }
            need(Modifier.isPublic(m.getModifiers()), m.getName() + " is public or private");
            need(m.getReturnType() == int.class && !Modifier.isStatic(m.getModifiers()), m.getName() + " answers an int");
            need(Arrays.stream(m.getParameterTypes()).allMatch(p -> p == int.class), m.getName() + " takes ints");
            need(got.put(m.getName(), m.getParameterCount()) == null, m.getName() + " is there once");
        }
        need(got.equals(want), "the methods are those of the document: " + got);
        hidden.retainAll(want.keySet());
        need(hidden.isEmpty(), "no private method bears a public name: " + hidden);
        Constructor<?>[] made = face.getDeclaredConstructors();
        need(made.length == 1 && Modifier.isPublic(made[0].getModifiers()) && made[0].getParameterCount() == 0,
                "one public constructor");
        for (Field f : face.getDeclaredFields()) {
            need(Modifier.isPrivate(f.getModifiers()), f.getName() + " is private");
        }
    }

    /** The face as the document writes it, word by word and in its order, if the document is there. */
    private static void checkDocument(String source) throws IOException {
        if (!Files.isReadable(DOCUMENT)) {
            return;
        }
        String document = Files.readString(DOCUMENT);
        String face = document.substring(document.indexOf("```java"));
        List<String> want = publicLines(face.substring(0, face.indexOf("\n```")));
        need(want.size() == 1 + 1 + 37, "a class, a constructor and 37 methods in the document: " + want.size());
        need(publicLines(source).equals(want), "the face is written as the document writes it");
        Matcher group = Pattern.compile("Ahead of the calls (.*) the interface says: (---- .*)\\.").matcher(document);
        int groups = 0;
        while (group.find()) {
            groups++;
            need(group.group(1).equals(callsBehind(source, "    // " + group.group(2))), group.group());
        }
        need(groups == 6, "six groups of calls");
    }

    private static List<String> publicLines(String text) {
        return text.lines().filter(line -> line.matches("( {4})?public .*"))
                .map(line -> line.trim().replaceFirst("(;| \\{)$", "")).toList();
    }

    /** The public methods from a comment to the next one of its form, as the document tells them: `a`, `b`. */
    private static String callsBehind(String source, String comment) {
        int at = source.indexOf(comment + "\n");
        if (at < 0) {
            return "";
        }
        String behind = source.substring(at + comment.length());
        int end = behind.indexOf("    // ----");
        Matcher name = Pattern.compile("\n {4}public int (\\w+)\\(").matcher(end < 0 ? behind : behind.substring(0, end));
        List<String> names = new ArrayList<>();
        while (name.find()) {
            names.add("`" + name.group(1) + "`");
        }
        return String.join(", ", names);
    }
}
