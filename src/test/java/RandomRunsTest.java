import java.lang.reflect.InvocationTargetException;
import java.lang.reflect.Method;
import java.util.ArrayList;
import java.util.Arrays;
import java.util.Comparator;
import java.util.List;
import java.util.Random;

/** Runs of 512 calls by chance (of told seeds, so always the same) on the class and on the Model. */
public final class RandomRunsTest {
    private static final int RUNS = 1200;
    private static final int CALLS = 512;
    private static final int[] WILD = {Integer.MIN_VALUE, Integer.MIN_VALUE + 1, -1000001, -2, -1, 0, 1, 2, 31, 32, 33,
        5000, 5001, 9999, 10000, 10001, 99999, 100000, 100001, 99999999, 100000000, Integer.MAX_VALUE - 1,
        Integer.MAX_VALUE};

    private final Random random;
    private final int manyThings;
    private final int manySeekers;
    private final int letters;
    private final LostParcels x = new LostParcels();
    private final Model model = new Model();
    private final List<String> calls = new ArrayList<>();

    private RandomRunsTest(long seed) {
        random = new Random(seed);
        boolean large = seed % 12 == 0;
        manyThings = large ? 20 : 4 + (int) (seed % 9);
        manySeekers = large ? 8 : 2 + (int) (seed % 4);
        letters = 2 + (int) (seed % 3);
    }

    public static void main(String[] args) throws IllegalAccessException, InvocationTargetException {
        Method[] face = Arrays.stream(LostParcels.class.getDeclaredMethods())
                .filter(m -> java.lang.reflect.Modifier.isPublic(m.getModifiers())).toArray(Method[]::new);
        Arrays.sort(face, Comparator.comparing(Method::getName));
        for (int seed = 0; seed < RUNS; seed++) {
            if (!new RandomRunsTest(seed).run(face)) {
                System.out.println("run of seed " + seed + " went wrong");
                System.exit(1);
            }
        }
        System.out.println(RUNS + " runs of " + CALLS + " calls, all as the model's");
    }

    private boolean run(Method[] face) throws IllegalAccessException, InvocationTargetException {
        for (int i = 0; i < CALLS; i++) {
            Method act = i < 40 ? opening(face) : face[random.nextInt(face.length)];
            int[] arguments = arguments(act.getName(), act.getParameterCount());
            if (skipped(act.getName())) {
                continue;
            }
            Object[] boxed = Arrays.stream(arguments).boxed().toArray();
            int got = (Integer) act.invoke(x, boxed);
            int want = model.call(act.getName(), arguments);
            calls.add(act.getName() + Arrays.toString(arguments) + " -> " + got);
            if (got != want) {
                calls.forEach(System.out::println);
                System.out.println("due is " + want);
                return false;
            }
        }
        return true;
    }

    private Method opening(Method[] face) {
        String[] names = {"thing", "thing", "thing", "seeker", "word", "word", "trait", "trait", "address", "law"};
        String name = names[random.nextInt(names.length)];
        return Arrays.stream(face).filter(m -> m.getName().equals(name)).findFirst().orElseThrow();
    }

    /** Keeps runs small enough for the Model, and days slow enough that things live. */
    private boolean skipped(String name) {
        switch (name) {
            case "thing": return model.call("count", 0) >= manyThings && manyThings < 20;
            case "seeker": return model.call("count", 5) >= manySeekers && manySeekers < 8;
            case "match": case "check": return manyThings == 20 && random.nextInt(6) != 0;
            case "sell": case "answer": return random.nextInt(3) != 0;
            default: return false;
        }
    }

    private int upTo(int most) {
        return random.nextInt(most + 1);
    }

    /** Mostly the same one, so that answers are right as often as not. */
    private int secret() {
        return random.nextInt(12) == 0 ? 1 + upTo(2) : 1;
    }

    private int thing() {
        return upTo(Math.max(1, model.call("count", 0))) - (random.nextInt(40) == 0 ? 1 : 0);
    }

    private int seeker() {
        return upTo(Math.max(0, model.call("count", 5) - (random.nextInt(20) == 0 ? 0 : 1)));
    }

    private int address() {
        return upTo(Math.max(0, model.call("count", 6) - (random.nextInt(20) == 0 ? 0 : 1)));
    }

    /** Some of the things, most often of those that can be sold or are kept. */
    private int set(boolean forSale) {
        int all = 0;
        for (int t = 0; t < model.call("count", 0); t++) {
            all |= model.call("about", t, 4) == 0 ? 1 << t : 0;
        }
        all = forSale ? model.call("sellable") : all;
        int some = all & random.nextInt();
        return random.nextInt(12) == 0 ? random.nextInt(1 << 21) : random.nextInt(2) == 0 ? all : some;
    }

    private int soon() {
        int today = model.call("count", 7);
        int[] ahead = {0, 0, 0, 1, 1, 1, 1, 2, 2, 3, 5, 10, 11, 30, random.nextInt(5) == 0 ? 1000 : 1, -1};
        return today + ahead[random.nextInt(ahead.length)];
    }

    private int digits(int places, int least) {
        int number = 0;
        for (int i = 0; i < places; i++) {
            number = 10 * number + least + upTo(letters - least);
        }
        return number;
    }

    private int[] arguments(String name, int count) {
        int[] usual = usualArguments(name, count);
        for (int i = 0; i < usual.length; i++) {
            if (random.nextInt(50) == 0) {
                usual[i] = WILD[random.nextInt(WILD.length)];
            }
        }
        return usual;
    }

    private int[] usualArguments(String name, int count) {
        int places = 1 + upTo(4);
        int low = 1 + upTo(40);
        switch (name) {
            case "thing": return new int[] {upTo(3), Math.max(0, model.call("count", 7) - upTo(3)), 1 + upTo(40),
                upTo(2) * upTo(12), secret()};
            case "as": return new int[] {thing(), upTo(4)};
            case "trait": return new int[] {thing(), upTo(4), upTo(1) * upTo(2)};
            case "about": return new int[] {thing(), upTo(11)};
            case "day": return new int[] {soon()};
            case "spoil": return new int[] {upTo(31)};
            case "known": return new int[] {thing(), Math.max(0, soon() - upTo(20))};
            case "seeker": return new int[] {random.nextInt(4) == 0 ? upTo(3) : 0};
            case "word": return new int[] {seeker(), upTo(4), upTo(1) * (1 + upTo(2)) - 1};
            case "span": return new int[] {seeker(), 1 + upTo(1) * low, low + 20 + upTo(20)};
            case "points": return new int[] {upTo(4), upTo(1) * upTo(15) + upTo(6)};
            case "likeness": case "chance": return new int[] {seeker(), thing()};
            case "match": return new int[] {seeker() - upTo(1)};
            case "seen": return new int[] {seeker(), upTo(4)};
            case "answer": case "owed": return new int[] {seeker(), thing(), secret()};
            case "address": return new int[] {digits(places, 1), upTo(5)};
            case "post": return new int[] {address(), upTo(6)};
            case "fits": case "share": return new int[] {address(), digits(places, 0), 10 * places + upTo(3)};
            case "likely": return new int[] {digits(places, 0), 10 * places + upTo(3), upTo(5)};
            case "law": return new int[] {upTo(3), upTo(1) * upTo(3)};
            case "sell": return new int[] {set(true) & random.nextInt(), upTo(200)};
            case "lots": return new int[] {set(true), upTo(10), 10 + upTo(40), upTo(4)};
            case "sorted": return new int[] {upTo(1) * upTo(5), upTo(1)};
            case "sorter": return new int[] {upTo(5), upTo(3)};
            case "money": return new int[] {thing(), upTo(4), upTo(2)};
            case "burst": return new int[] {set(false), 1 + upTo(120), upTo(10)};
            case "tell": return new int[] {upTo(8) - 1};
            case "count": return new int[] {upTo(11)};
            case "found": return new int[] {upTo(6)};
            default: return count == 0 ? new int[0] : new int[] {thing()};
        }
    }
}
