import java.io.IOException;
import java.lang.reflect.Constructor;
import java.lang.reflect.Field;
import java.lang.reflect.Method;
import java.lang.reflect.Modifier;
import java.nio.file.Files;
import java.nio.file.Path;
import java.util.Arrays;
import java.util.HashSet;
import java.util.Map;
import java.util.Set;
import java.util.TreeMap;
import java.util.regex.Matcher;
import java.util.regex.Pattern;

/** The public face, and those rules of ../shared/LANGUAGE.md that can be seen without reading the code. */
public final class FaceTest {
    private static final String FACE = "thing 5 as 2 trait 3 about 2 day 1 spoil 1 known 2 seeker 1 word 3 span 3 points 2"
            + " likeness 2 chance 2 match 1 seen 2 answer 3 back 1 address 2 post 2 fits 3 likely 3 share 3 law 2"
            + " sellable 0 sell 2 sold 1 owed 3 lots 4 sorted 2 sorter 2 money 3 counted 1 burst 3 tell 1 check 0"
            + " count 1 found 1";
    private static final String[] BANNED = {"throw", "throws", "try", "catch", "finally", "synchronized", "assert",
        "volatile", "transient", "native", "System\\.(?!arraycopy)", "Object", "HashMap", "Map", "Set", "Random",
        "Thread", "yield", "hashCode", "\\w+Exact"};

    private static int wrong = 0;

    public static void main(String[] args) throws IOException {
        checkFace();
        checkNested();
        checkSource(Files.readString(Path.of("src/main/java/LostParcels.java")));
        System.out.println(wrong == 0 ? "the face and the language are as told" : wrong + " faults");
        if (wrong != 0) {
            System.exit(1);
        }
    }

    private static void need(boolean holds, String what) {
        if (!holds) {
            wrong++;
            System.out.println("not so: " + what);
        }
    }

    private static void checkFace() {
        Class<?> face = LostParcels.class;
        need(Modifier.isPublic(face.getModifiers()) && Modifier.isFinal(face.getModifiers()), "public and final");
        Map<String, Integer> want = new TreeMap<>();
        String[] words = FACE.split(" ");
        for (int i = 0; i < words.length; i += 2) {
            want.put(words[i], Integer.parseInt(words[i + 1]));
        }
        Map<String, Integer> got = new TreeMap<>();
        Set<String> hidden = new HashSet<>();
        for (Method m : face.getDeclaredMethods()) {
            if (Modifier.isPrivate(m.getModifiers())) {
                hidden.add(m.getName());
                continue;
            }
            need(Modifier.isPublic(m.getModifiers()), m.getName() + " is public or private");
            need(m.getReturnType() == int.class && !Modifier.isStatic(m.getModifiers()), m.getName() + " answers an int");
            need(Arrays.stream(m.getParameterTypes()).allMatch(p -> p == int.class), m.getName() + " takes ints");
            need(got.put(m.getName(), m.getParameterCount()) == null, m.getName() + " is there once");
        }
        need(got.equals(want), "the methods are those of the document: " + got);
        hidden.retainAll(want.keySet());
        need(hidden.isEmpty(), "no private method bears a public name: " + hidden);
        Constructor<?>[] made = face.getDeclaredConstructors();
        need(made.length == 1 && Modifier.isPublic(made[0].getModifiers()) && made[0].getParameterCount() == 0,
                "one public constructor");
        for (Field f : face.getDeclaredFields()) {
            need(Modifier.isPrivate(f.getModifiers()), f.getName() + " is private");
        }
    }

    private static void checkNested() {
        Class<?>[] nested = LostParcels.class.getDeclaredClasses();
        need(nested.length < 12, "at most some twelve classes");
        for (Class<?> c : nested) {
            need(Modifier.isStatic(c.getModifiers()) && !Modifier.isPublic(c.getModifiers())
                    && !Modifier.isProtected(c.getModifiers()), c.getName() + " is static and not public");
            checkClass(c);
        }
        checkClass(LostParcels.class);
    }

    private static void checkClass(Class<?> c) {
        int fields = 0;
        for (Field f : c.getDeclaredFields()) {
            boolean isStatic = Modifier.isStatic(f.getModifiers());
            need(!isStatic || Modifier.isFinal(f.getModifiers()), f.getName() + " is final or not static");
            fields += isStatic ? 0 : 1;
        }
        need(fields <= 20, c.getName() + " has at most some twenty fields");
        for (Method m : c.getDeclaredMethods()) {
            need(m.getParameterCount() <= 7, m.getName() + " takes at most seven");
            need(!m.isSynthetic(), m.getName() + " is written, not made by the compiler");
        }
    }

    private static void checkSource(String source) {
        need(source.chars().allMatch(c -> c < 128), "signs below 128 alone");
        need(source.lines().noneMatch(line -> line.length() > 120), "lines of 120 signs at most");
        String code = source.replaceAll("(?s)/\\*.*?\\*/", "").replaceAll("//[^\n]*", "");
        for (String word : BANNED) {
            need(!Pattern.compile("\\b(" + word + ")\\b").matcher(code).find(), "no " + word);
        }
        need(!code.contains("->") && !code.contains("::"), "no lambda, no method reference");
        need(!code.contains("@"), "no annotation");
        need(!code.contains("while (true)") && !code.contains("for (;;)"), "no loop without an end");
        Matcher imports = Pattern.compile("import\\s+([^;]+);").matcher(code);
        while (imports.find()) {
            need(Set.of("java.util.ArrayList", "java.util.Arrays", "java.util.List").contains(imports.group(1)),
                    "import " + imports.group(1));
        }
        checkLengths(source.split("\n"));
    }

    private static void checkLengths(String[] lines) {
        int begin = -1;
        String end = "";
        for (int i = 0; i < lines.length; i++) {
            boolean opens = lines[i].matches("( {4}| {8})\\S.*\\).*\\{") && !lines[i].matches("\\s*(for|if|while|switch|\\}).*");
            if (begin < 0 && opens) {
                begin = i;
                end = lines[i].replaceAll("\\S.*", "") + "}";
            } else if (begin >= 0 && lines[i].equals(end)) {
                need(i - begin < 60, "a short method at line " + (begin + 1));
                begin = -1;
            }
        }
    }
}
