import java.util.Random;

/** The match, lots and bursts at their largest, with many equals, held against the Model. */
public final class HardSearchTest {
    private static final Due due = new Due();

    public static void main(String[] args) {
        for (int seed = 0; seed < 5; seed++) {
            fullMatch(new Random(seed), 8, 20);
        }
        for (int seed = 0; seed < 300; seed++) {
            fullMatch(new Random(seed), 1 + seed % 8, 1 + seed % 11);
        }
        for (int seed = 0; seed < 120; seed++) {
            lots(new Random(seed));
            bursts(new Random(seed));
        }
        for (int seed = 0; seed < 400; seed++) {
            sorters(new Random(seed));
        }
        due.end();
    }

    private static void both(LostParcels x, Model model, Random random, int seekers, int things) {
        for (int t = 0; t < things; t++) {
            int weight = 1 + random.nextInt(3);
            due.is(2, "thing", x.thing(0, 0, weight, 0, 1), model.call("thing", 0, 0, weight, 0, 1));
            for (int trait = 0; trait < 5; trait++) {
                int worth = random.nextInt(2);
                due.is(4, "trait", x.trait(t, trait, worth), model.call("trait", t, trait, worth));
            }
        }
        for (int s = 0; s < seekers; s++) {
            int lost = random.nextInt(12) == 0 ? 1 : 0;
            due.is(9, "seeker", x.seeker(lost), model.call("seeker", lost));
            int low = 1 + random.nextInt(3);
            due.is(11, "span", x.span(s, low, 3), model.call("span", s, low, 3));
            for (int trait = 0; trait < 5; trait++) {
                int worth = random.nextInt(3) - 1;
                due.is(10, "word", x.word(s, trait, worth), model.call("word", s, trait, worth));
            }
        }
    }

    private static void fullMatch(Random random, int seekers, int things) {
        LostParcels x = new LostParcels();
        Model model = new Model();
        both(x, model, random, seekers, things);
        for (int trait = 0; trait < 5; trait++) {
            int points = random.nextInt(3) == 0 ? random.nextInt(21) : 4;
            due.is(12, "points", x.points(trait, points), model.call("points", trait, points));
        }
        for (int s = -1; s < seekers; s++) {
            due.is(15, "match(" + s + ") of " + seekers + " and " + things, x.match(s), model.call("match", s));
        }
    }

    private static void lots(Random random) {
        LostParcels x = new LostParcels();
        Model model = new Model();
        due.is(24, "law", x.law(0, 0), model.call("law", 0, 0));
        int size = 6 + random.nextInt(4);
        int[] worths = {0, 1, 2, 3, 5, 8};
        for (int t = 0; t < size; t++) {
            int worth = worths[random.nextInt(worths.length)];
            due.is(2, "thing", x.thing(0, 0, 1, worth, 1), model.call("thing", 0, 0, 1, worth, 1));
        }
        int set = (1 << size) - 1 & ~(1 << random.nextInt(size));
        int low = random.nextInt(8);
        int high = low + random.nextInt(6);
        for (int what = 0; what <= 4; what++) {
            String call = "lots(" + set + ", " + low + ", " + high + ", " + what + ")";
            due.is(29, call, x.lots(set, low, high, what), model.call("lots", set, low, high, what));
        }
    }

    private static void bursts(Random random) {
        LostParcels x = new LostParcels();
        Model model = new Model();
        for (int t = 0; t < 20; t++) {
            int weight = 1 + random.nextInt(random.nextBoolean() ? 9 : 900);
            due.is(2, "thing", x.thing(0, 0, weight, 0, 1), model.call("thing", 0, 0, weight, 0, 1));
        }
        int set = random.nextInt(1 << 20);
        while (Integer.bitCount(set) > 14) {
            set &= set - 1;
        }
        for (int i = 0; i < 4; i++) {
            int weight = 1 + random.nextInt(3000);
            int more = random.nextInt(20);
            String call = "burst(" + set + ", " + weight + ", " + more + ")";
            due.is(34, call, x.burst(set, weight, more), model.call("burst", set, weight, more));
        }
    }

    private static void sorters(Random random) {
        LostParcels x = new LostParcels();
        Model model = new Model();
        int machines = 1 + random.nextInt(6);
        int records = random.nextInt(61);
        for (int i = 0; i < records; i++) {
            int machine = random.nextInt(machines);
            int torn = random.nextInt(3 + 2 * machine) == 0 ? 1 : 0;
            due.is(30, "sorted", x.sorted(machine, torn), model.call("sorted", machine, torn));
        }
        for (int machine = 0; machine < 6; machine++) {
            for (int what = 0; what < 3; what++) {
                due.is(31, "sorter", x.sorter(machine, what), model.call("sorter", machine, what));
            }
        }
    }
}
