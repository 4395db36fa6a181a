import java.util.ArrayList;
import java.util.List;
import java.util.TreeSet;

/**
 * Every argument of every act: at both ends of what it may be, on both sides of each end, and with the least and the
 * greatest int. One that is outside is BEYOND and leaves all as it was; one that is inside is never BEYOND.
 */
public final class BoundsTest {
    private static final Due due = new Due();
    private static final int ANY_LOW = Integer.MIN_VALUE;
    private static final int ANY_HIGH = Integer.MAX_VALUE;

    /** An act with fine arguments, and the ends of what each may be while the others stay (1, 0: not by ends). */
    private record Act(String name, int[] fine, int... ends) { }

    public static void main(String[] args) {
        for (Act act : acts(20, 8, 16)) {
            sweep(act, BoundsTest::full);
        }
        for (Act act : acts(2, 2, 2)) {
            sweep(act, BoundsTest::some);
        }
        nothingThere();
        everyWord();
        everyActIsHere();
        due.end();
    }

    private interface Depot {
        LostParcels make();
    }

    private static int[] row(int... numbers) {
        return numbers;
    }

    private static List<Act> acts(int things, int seekers, int addresses) {
        int t = things - 1;
        int s = seekers - 1;
        int a = addresses - 1;
        int set = (1 << things) - 1;
        List<Act> all = new ArrayList<>();
        all.add(new Act("thing", row(3, 5, 100, 100, 100), 0, 3, 0, 10, 1, 5000, 0, 10000, 1, 9999));
        all.add(new Act("as", row(t, 0), 0, t, 0, 3));
        all.add(new Act("trait", row(t, 0, 0), 0, t, 0, 4, 0, 15));
        all.add(new Act("about", row(t, 0), 0, t, 0, 10));
        all.add(new Act("day", row(20), 10, 9999));
        all.add(new Act("spoil", row(5), 0, 30));
        all.add(new Act("known", row(t, 0), 0, t, 0, 9999));
        all.add(new Act("seeker", row(5), 0, 9999));
        all.add(new Act("word", row(s, 0, 0), 0, s, 0, 4, -1, 15));
        all.add(new Act("span", row(s, 100, 200), 0, s, 1, 200, 100, 5000));
        all.add(new Act("span", row(s, 5000, 5000), 0, s, 1, 5000, 5000, 5000));
        all.add(new Act("span", row(s, 1, 1), 0, s, 1, 1, 1, 5000));
        all.add(new Act("points", row(0, 0), 0, 4, 0, 20));
        all.add(new Act("likeness", row(s, t), 0, s, 0, t));
        all.add(new Act("chance", row(s, t), 0, s, 0, t));
        all.add(new Act("match", row(s), -1, s));
        all.add(new Act("seen", row(s, 0), 0, s, 0, 3));
        all.add(new Act("answer", row(s, t, 5), 0, s, 0, t, 1, 9999));
        all.add(new Act("back", row(t), 0, t));
        all.add(new Act("address", row(1234, 5), 1, 0, 0, 1000));
        all.add(new Act("post", row(a, 5), 0, a, 0, 1000));
        for (int places = 1, most = 9; places <= 8; places++, most = 10 * most + 9) {
            all.add(new Act("fits", row(a, 0, 10 * places), 0, a, 0, most, 10 * places, 10 * places + 3));
            all.add(new Act("likely", row(0, 10 * places, 0), 0, most, 10 * places, 10 * places + 3, 0, ANY_HIGH));
            all.add(new Act("share", row(a, 0, 10 * places), 0, a, 0, most, 10 * places, 10 * places + 3));
        }
        all.add(new Act("law", row(0, 5), 0, 3, 0, 60));
        all.add(new Act("sellable", row()));
        all.add(new Act("sell", row(1 << t, 5), 1, set, 0, 100000));
        all.add(new Act("sold", row(t), 0, t));
        all.add(new Act("owed", row(s, t, 5), 0, s, 0, t, 1, 9999));
        all.add(new Act("lots", row(1 << t, 100, 200, 0), 0, set, 0, 200, 100, 100000, 0, ANY_HIGH));
        all.add(new Act("lots", row(1 << t, 0, 0, 0), 0, set, 0, 0, 0, 100000, 0, ANY_HIGH));
        all.add(new Act("sorted", row(0, 0), 0, 5, 0, 1));
        all.add(new Act("sorter", row(0, 0), 0, 5, 0, 2));
        all.add(new Act("money", row(t, 0, 5), 0, t, 0, 3, 0, 100000));
        all.add(new Act("counted", row(t), 0, t));
        all.add(new Act("burst", row(1 << t, 100, 5), 0, set, 1, 100000, 0, 1000));
        all.add(new Act("tell", row(5), ANY_LOW, ANY_HIGH));
        all.add(new Act("check", row()));
        all.add(new Act("count", row(0), 0, 10));
        all.add(new Act("found", row(1), 1, 5));
        return all;
    }

    private static LostParcels some() {
        LostParcels x = new LostParcels();
        fill(x, 2, 2, 2);
        return x;
    }

    private static LostParcels full() {
        LostParcels x = new LostParcels();
        fill(x, 20, 8, 16);
        for (int i = 0; i < 60; i++) {
            x.sorted(i % 6, i % 2);
        }
        for (int i = 0; i < 20; i++) {
            x.tell(i);
        }
        return x;
    }

    private static void fill(LostParcels x, int things, int seekers, int addresses) {
        x.day(10);
        for (int i = 0; i < things; i++) {
            x.thing(i == 0 ? 3 : i % 4, 10, 1 + i, i, 1 + i);
        }
        for (int i = 0; i < seekers; i++) {
            x.seeker(i);
        }
        for (int i = 0; i < addresses; i++) {
            x.address(12345678 % (int) Math.pow(10, 1 + i % 8), i);
        }
    }

    private static void sweep(Act act, Depot depot) {
        if (act.fine.length == 0) {
            due.is(0, act.name + " takes nothing, so nothing is beyond", isBeyond(act, depot, act.fine) ? 1 : 0, 0);
        }
        for (int i = 0; i < act.fine.length; i++) {
            int low = act.ends[2 * i];
            int high = act.ends[2 * i + 1];
            if (low > high) {
                continue;
            }
            TreeSet<Long> numbers = new TreeSet<>(List.of(low - 1L, (long) low, low + 1L, high - 1L, (long) high,
                    high + 1L, (long) ANY_LOW, ANY_LOW + 1L, ANY_HIGH - 1L, (long) ANY_HIGH, -1L, 0L, 1L));
            for (long number : numbers) {
                if (number >= ANY_LOW && number <= ANY_HIGH) {
                    int[] arguments = act.fine.clone();
                    arguments[i] = (int) number;
                    String call = act.name + " with " + number + " at " + i + " may be " + low + " .. " + high;
                    due.is(0, call, isBeyond(act, depot, arguments) ? 1 : 0, number < low || number > high ? 1 : 0);
                }
            }
        }
    }

    private static boolean isBeyond(Act act, Depot depot, int[] arguments) {
        return Run.on(depot.make(), act.name, arguments) == Due.BEYOND;
    }

    /** On a new object no number is a thing's, a seeker's or an address's. */
    private static void nothingThere() {
        int[] numbers = {ANY_LOW, -1, 0, 1, 7, 15, 19, 20, ANY_HIGH};
        String[] first = {"as", "trait", "about", "known", "word", "likeness", "chance", "seen", "answer", "back",
            "post", "fits",
            "share", "sold", "owed", "money", "counted"};
        for (Act act : acts(20, 8, 16)) {
            for (int number : numbers) {
                if (List.of(first).contains(act.name)) {
                    int[] arguments = act.fine.clone();
                    arguments[0] = number;
                    int answer = Run.on(new LostParcels(), act.name, arguments);
                    due.is(0, act.name + " of nothing, " + number, answer, Due.BEYOND);
                }
            }
        }
        for (int bit = 0; bit < 32; bit++) {
            due.is(26, "sell bit " + bit, new LostParcels().sell(1 << bit, 0), Due.BEYOND);
            due.is(29, "lots bit " + bit, new LostParcels().lots(1 << bit, 0, 0, 0), Due.BEYOND);
            due.is(34, "burst bit " + bit, new LostParcels().burst(1 << bit, 1, 0), Due.BEYOND);
            boolean isThere = bit < 20;
            due.is(26, "sell bit " + bit + " of 20", full().sell(1 << bit, 0) == Due.BEYOND ? 0 : 1, isThere ? 1 : 0);
            due.is(29, "lots bit " + bit + " of 20",
                full().lots(1 << bit, 0, 0, 0) == Due.BEYOND ? 0 : 1, isThere ? 1 : 0);
            due.is(34, "burst bit " + bit + " of 20",
                full().burst(1 << bit, 1, 0) == Due.BEYOND ? 0 : 1, isThere ? 1 : 0);
        }
    }

    /** A word is one by its digits, not by its ends: all short ones, and those at the ends of each length. */
    private static void everyWord() {
        TreeSet<Integer> numbers = new TreeSet<>();
        for (int number = -20; number <= 20000; number++) {
            numbers.add(number);
        }
        for (int ten = 1; ten <= 1000000000 / 10; ten *= 10) {
            for (int near = -12; near <= 12; near++) {
                for (int digit = 1; digit <= 9; digit++) {
                    numbers.add(digit * ten + near);
                    numbers.add(11111111 % (10 * ten) + digit * ten / 10 + near);
                }
            }
        }
        for (int number : numbers) {
            boolean isWord = Integer.toString(number).matches("[1-9]{1,8}");
            due.is(19, "address(" + number + ", 5)", new LostParcels().address(number, 5), isWord ? 0 : Due.BEYOND);
        }
    }

    private static void everyActIsHere() {
        TreeSet<String> names = new TreeSet<>();
        acts(20, 8, 16).forEach(act -> names.add(act.name));
        due.is(0, "acts that are swept: " + names, names.size(), 37);
    }
}
