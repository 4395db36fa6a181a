import java.util.ArrayList;
import java.util.Arrays;
import java.util.HashMap;
import java.util.LinkedHashMap;
import java.util.List;
import java.util.Map;
import java.util.Random;
import java.util.TreeMap;

/**
 * After a refused call all later calls answer as if it had not been made, but found(). In several depots every act is
 * called with every sort of wrong argument; behind each refused call long probes ask for all that can be seen, and are
 * held against the same probes in a twin that was not called so.
 */
public final class RefusedTest {
    private static final int[] WILD = {Integer.MIN_VALUE, -1, 0, 1, 2, 3, 5, 7, 8, 11, 13, 19, 20, 31, 84, 1000, 9999,
        10000, 100001, 100000000, Integer.MAX_VALUE};

    private final Run depot;
    private final List<Run> probes;
    private final Map<Integer, int[]> twins = new HashMap<>();
    private final Map<String, Integer> refused = new TreeMap<>();
    private int wrong = 0;

    private RefusedTest(Run depot, List<Run> probes) {
        this.depot = depot;
        this.probes = probes;
        for (Run probe : probes) {
            // The refused call and found() five times ahead of it and behind it stand between them.
            if (depot.calls.size() + 11 + probe.calls.size() > Run.MOST_CALLS) {
                throw new IllegalStateException("a probe of " + probe.calls.size() + " calls is too long");
            }
        }
    }

    public static void main(String[] args) {
        int wrong = 0;
        Map<String, Integer> refused = new TreeMap<>();
        for (Map.Entry<String, Run> depot : depots().entrySet()) {
            RefusedTest test = new RefusedTest(depot.getValue(), probes());
            test.run(new Random(depot.getKey().hashCode()));
            test.refused.forEach((name, times) -> refused.merge(name, times, Integer::sum));
            int calls = test.refused.values().stream().mapToInt(n -> n).sum();
            System.out.println(depot.getKey() + ": " + calls + " refused calls, " + test.wrong + " wrong");
            wrong += test.wrong;
        }
        // sellable() and check() take nothing and have no findings; every other act was refused.
        if (wrong != 0 || refused.size() != 35) {
            System.out.println("refused: " + refused);
            System.exit(1);
        }
    }

    private static Map<String, Run> depots() {
        Map<String, Run> all = new LinkedHashMap<>();
        all.put("nothing there", new Run("count(0)"));
        String middle = "law(0,1) law(3,0) spoil(2) day(40) thing(0,0,10,30,1) thing(0,39,20,10,2)"
            + " thing(1,0,30,5,3) thing(2,39,40,5,4)"
            + " thing(3,40,50,9,5) thing(2,0,60,5,6) thing(0,1,70,7,7) thing(3,0,80,8,8) trait(0,0,3) trait(1,0,3)"
            + " trait(1,1,2)"
            + " trait(4,4,15) seeker(0) seeker(39) seeker(0) seeker(0) answer(0,6,7)=1 word(0,0,3) word(1,0,3)"
            + " word(1,1,2) word(2,4,15) span(2,40,60)"
            + " points(0,7) points(4,20) 3*answer(3,0,9)=0 answer(2,4,9)=0 sell(128,95)=0 owed(0,7,9)=NONE"
            + " address(1234,50) address(234,70) address(7,0) sorted(0,1) 7*sorted(1,0) sorted(1,1) money(4,0,9)"
            + " money(4,2,9) money(4,1,8)"
            + " tell(0) tell(1) tell(4)";
        all.put("some of each", new Run(middle));
        StringBuilder full = new StringBuilder("law(0,0) law(3,0) day(30) ");
        for (int t = 0; t < 20; t++) {
            full.append("thing(" + t % 4 + ",30," + (10 + t) + "," + 3 * t + "," + (t + 1) + ") ");
            full.append("trait(" + t + "," + t % 5 + "," + t % 3 + ") ");
        }
        for (int s = 0; s < 8; s++) {
            full.append("seeker(" + (s == 7 ? 31 : s) + ") word(" + s + "," + s % 5 + "," + s % 3 + ") ");
        }
        full.append("16*address(12321,4) 60*sorted(2,1) 20*tell(3) money(3,0,5) money(3,1,5) answer(0,4,5)=1"
            + " sell(257,77) owed(0,0,1) "
            + "2*answer(1,3,9)=0");
        all.put("no more may be there", new Run(full.toString()));
        return all;
    }

    /** All that can be seen, and what acts would do, in runs short enough to stand behind a depot's. */
    private static List<Run> probes() {
        List<Run> all = new ArrayList<>();
        all.add(new Run(each("about", 20, 11)));
        all.add(new Run(counts() + " day(41) day(42) day(42) " + counts() + each("known",
            20, new int[] {0, 29, 30, 39, 40, 41, 42, 9999})));
        all.add(new Run(each("likeness", 8, 20) + each("chance", 8, 5) + each("seen", 8, 4) + "match(-1) match(0)"
            + " match(1) match(2) match(7)"));
        all.add(new Run(setters() + each("sorter", 6, 3) + "check() tell(-1) check() count(9)"));
        all.add(new Run(each("counted", 20) + each("sold", 20) + "sellable() lots(3,0,40,0) lots(3,0,40,1)"
            + " lots(2,0,40,1) burst(7,40,9)"
            + " burst(18,70,0) sell(2,30) sold(1) sell(1,31) sold(0) owed(0,0,1) owed(1,1,2) owed(2,7,8) count(10)"
            + " day(42)"
            + " sellable() thing(0,3,4,5,6) seeker(4) address(5,6) sorted(5,0) tell(9) " + counts()));
        all.add(new Run(secrets() + each("seen", 8, 4) + each("back", 20) + each("seen", 8, 4) + counts()));
        all.add(new Run(addresses() + hands()));
        return all;
    }

    private static String each(String name, int many) {
        StringBuilder text = new StringBuilder();
        for (int i = 0; i < many; i++) {
            text.append(name + "(" + i + ") ");
        }
        return text.toString();
    }

    private static String each(String name, int many, int whats) {
        int[] row = new int[whats];
        for (int i = 0; i < whats; i++) {
            row[i] = i;
        }
        return each(name, many, row);
    }

    private static String each(String name, int many, int[] whats) {
        StringBuilder text = new StringBuilder();
        for (int i = 0; i < many; i++) {
            for (int what : whats) {
                text.append(name + "(" + i + "," + what + ") ");
            }
        }
        return text.toString();
    }

    private static String counts() {
        StringBuilder text = new StringBuilder();
        for (int i = 0; i <= 10; i++) {
            text.append("count(" + i + ") ");
        }
        return text + " ";
    }

    private static String setters() {
        StringBuilder text = new StringBuilder("spoil(1) spoil(2) ");
        for (int i = 0; i < 5; i++) {
            text.append("points(" + i + ",5) law(" + i + ",2) ");
            for (int s = 0; s < 8; s++) {
                text.append("word(" + s + "," + i + ",1) ");
            }
            for (int t = 0; t < 20; t += 3) {
                text.append("trait(" + t + "," + i + ",1) ");
            }
        }
        return text.toString();
    }

    private static String secrets() {
        StringBuilder text = new StringBuilder();
        for (int t = 0; t < 20; t++) {
            text.append("answer(" + t % 8 + "," + t + "," + (t + 1) + ") ");
            text.append("answer(" + t % 3 + "," + t + "," + (t + 1) + ") ");
        }
        return text.append("3*answer(2,1,99) 3*owed(1,7,99) ").toString();
    }

    private static String addresses() {
        StringBuilder text = new StringBuilder();
        for (int i = 0; i < 16; i++) {
            text.append("fits(" + i + ",3,12) fits(" + i + ",3,13) ");
            text.append("share(" + i + ",3,13) share(" + i + ",0,51) likely(0,13," + i + ") ");
        }
        for (int i = 0; i < 16; i++) {
            text.append("post(" + i + "," + i + ") ");
        }
        return text.toString();
    }

    private static String hands() {
        StringBuilder text = new StringBuilder();
        for (int t = 0; t < 20; t++) {
            text.append("money(" + t + ",3,8) counted(" + t + ") as(" + t + ",0) ");
        }
        return text.toString();
    }

    private void run(Random random) {
        String[] face = ("thing 5 as 2 trait 3 about 2 day 1 spoil 1 known 2 seeker 1 word 3 span 3 points 2"
            + " likeness 2 chance 2 match 1 seen 2"
            + " answer 3 back 1 address 2 post 2 fits 3 likely 3 share 3 law 2 sell 2 sold 1 owed 3 lots 4 sorted 2"
            + " sorter 2 money 3"
            + " counted 1 burst 3 tell 1 count 1 found 1").split(" ");
        for (int i = 0; i < face.length; i += 2) {
            for (int[] arguments : wrongOnes(Integer.parseInt(face[i + 1]), random)) {
                tryCall(face[i], arguments);
            }
        }
    }

    /** Each argument wild while the others are small, and some where all are wild. */
    private static List<int[]> wrongOnes(int many, Random random) {
        List<int[]> all = new ArrayList<>();
        for (int i = 0; i < many; i++) {
            for (int number : WILD) {
                for (int others = 0; others < 3; others++) {
                    int[] arguments = new int[many];
                    Arrays.fill(arguments, others);
                    arguments[i] = number;
                    all.add(arguments);
                }
            }
        }
        for (int k = 0; k < 30 * (many - 1); k++) {
            int[] arguments = new int[many];
            for (int i = 0; i < many; i++) {
                arguments[i] = random.nextInt(3) == 0 ? WILD[random.nextInt(WILD.length)] : random.nextInt(9);
            }
            all.add(arguments);
        }
        return all;
    }

    private LostParcels makeDepot() {
        LostParcels x = new LostParcels();
        for (Run.Call call : depot.calls) {
            int answer = Run.on(x, call.name(), call.arguments());
            if (call.due() == null ? Run.isFinding(answer) : answer != call.due()) {
                throw new IllegalStateException(call.text() + " answered " + answer);
            }
        }
        return x;
    }

    private void tryCall(String name, int[] arguments) {
        for (int p = 0; p < probes.size(); p++) {
            LostParcels x = makeDepot();
            int[] before = findings(x);
            int answer = Run.on(x, name, arguments);
            if (!Run.isFinding(answer) || name.equals("owed") && answer == Due.NONE) {
                return;
            }
            if (p == 0) {
                refused.merge(name, 1, Integer::sum);
            }
            String call = name + Arrays.toString(arguments) + " that answered " + answer;
            int[] after = findings(x);
            before[-1000001 - answer]++;
            if (!Arrays.equals(before, after)) {
                fault(call + ": found() tells " + Arrays.toString(after) + ", due is " + Arrays.toString(before));
            }
            holdProbe(x, p, call);
        }
    }

    private static int[] findings(LostParcels x) {
        return new int[] {x.found(1), x.found(2), x.found(3), x.found(4), x.found(5)};
    }

    private static int[] answers(LostParcels x, Run probe) {
        int[] row = new int[probe.calls.size()];
        for (int i = 0; i < row.length; i++) {
            row[i] = Run.on(x, probe.calls.get(i).name(), probe.calls.get(i).arguments());
        }
        return row;
    }

    private void holdProbe(LostParcels x, int number, String call) {
        Run probe = probes.get(number);
        int[] twin = twins.computeIfAbsent(number, n -> answers(makeDepot(), probe));
        int[] got = answers(x, probe);
        for (int i = 0; i < got.length; i++) {
            if (got[i] != twin[i]) {
                fault("behind " + call + ": " + probe.calls.get(i).text() + " answered " + got[i] 
                        + ", without it " + twin[i]);
                return;
            }
        }
    }

    private void fault(String text) {
        wrong++;
        if (wrong <= 20) {
            System.out.println(text);
        }
    }
}
