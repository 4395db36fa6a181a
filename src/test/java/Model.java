import java.math.BigInteger;
import java.util.ArrayList;
import java.util.Arrays;
import java.util.Comparator;
import java.util.HashMap;
import java.util.HashSet;
import java.util.List;
import java.util.Map;
import java.util.Set;
import java.util.TreeMap;

/** The document once more, by other and slower ways, to hold the class against it. */
public final class Model {
    private static final class Finding extends RuntimeException {
        private static final long serialVersionUID = 1L;
        final int which;

        Finding(int which) {
            super(null, null, false, false);
            this.which = which;
        }
    }

    private static final class Item {
        int kind, found, weight, worth, secret, state, holder = -1, given, share, soldOn;
        boolean paid;
        int[] traits = new int[5];
        Map<Integer, Integer> hands = new TreeMap<>();
        List<int[]> log = new ArrayList<>();
    }

    private static final class Person {
        int lost, low = 1, high = 5000, falses;
        Integer[] words = new Integer[5];
    }

    private final List<Item> items = new ArrayList<>();
    private final List<Person> people = new ArrayList<>();
    private final List<String> words = new ArrayList<>();
    private final List<Integer> posts = new ArrayList<>();
    private final List<int[]> records = new ArrayList<>();
    private final List<Integer> waits = new ArrayList<>();
    private final int[] points = {4, 4, 4, 4, 4};
    private final int[] months = {12, 12, 12, 12};
    private final int[] findings = new int[6];
    private int today, spoil = 3, paid;

    /** Calls an act by its name; findings are thrown by the acts and counted here. */
    public int call(String name, int... a) {
        try {
            return act(name, a);
        } catch (Finding f) {
            findings[f.which]++;
            return -1000000 - f.which;
        }
    }

    private int act(String name, int[] a) {
        switch (name) {
            case "thing": return thing(a[0], a[1], a[2], a[3], a[4]);
            case "as": return as(item(a[0]), a[1]);
            case "trait": return trait(item(a[0]), a[1], a[2]);
            case "about": return about(item(a[0]), a[1]);
            case "day": return day(a[0]);
            case "spoil": { need(a[0] >= 0 && a[0] <= 30, 1); int was = spoil; spoil = a[0]; return was; }
            case "known": return known(item(a[0]), a[1]);
            case "seeker": return seeker(a[0]);
            case "word": return word(person(a[0]), a[1], a[2]);
            case "span": return span(person(a[0]), a[1], a[2]);
            case "points": return put(points, a[0], a[1], 20);
            case "likeness": return likeness(person(a[0]), item(a[1]));
            case "chance": return chance(person(a[0]), item(a[1]));
            case "match": return match(a[0]);
            case "seen": return seen(person(a[0]), a[0], a[1]);
            case "answer": return answer(person(a[0]), a[0], item(a[1]), a[2]);
            case "back": return back(item(a[0]));
            case "address": return address(a[0], a[1]);
            case "post": return post(a[0], a[1]);
            case "fits": return fits(a[0], a[1], a[2]);
            case "likely": return likely(a[0], a[1], a[2]);
            case "share": return share(a[0], a[1], a[2]);
            case "law": return put(months, a[0], a[1], 60);
            case "sellable": return sellable();
            case "sell": return sell(a[0], a[1]);
            case "sold": { Item i = item(a[0]); need(i.state == 2, 3); return i.share; }
            case "owed": return owed(person(a[0]), item(a[1]), a[2]);
            case "lots": return lots(a[0], a[1], a[2], a[3]);
            case "sorted": return sorted(a[0], a[1]);
            case "sorter": return sorter(a[0], a[1]);
            case "money": return money(item(a[0]), a[1], a[2]);
            case "counted": return counted(item(a[0]));
            case "burst": return burst(a[0], a[1], a[2]);
            case "tell": need(waits.size() < 20, 4); waits.add(a[0]); return waits.size();
            case "check": return check();
            case "count": return count(a[0]);
            case "found": need(a[0] >= 1 && a[0] <= 5, 1); return findings[a[0]];
            default: throw new IllegalArgumentException(name);
        }
    }

    private static void need(boolean holds, int finding) {
        if (!holds) {
            throw new Finding(finding);
        }
    }

    private static boolean in(int v, int low, int high) {
        return low <= v && v <= high;
    }

    private Item item(int n) {
        need(in(n, 0, items.size() - 1), 1);
        return items.get(n);
    }

    private Person person(int n) {
        need(in(n, 0, people.size() - 1), 1);
        return people.get(n);
    }

    private static int put(int[] row, int at, int v, int most) {
        need(in(at, 0, row.length - 1) && in(v, 0, most), 1);
        int was = row[at];
        row[at] = v;
        return was;
    }

    private void turn(Item i, int state) {
        i.state = state;
        i.log.add(new int[] {today, state});
    }

    private int thing(int kind, int found, int weight, int worth, int secret) {
        need(in(kind, 0, 3) && in(found, 0, today) && in(weight, 1, 5000) && in(worth, 0, 10000) && in(secret, 1, 9999), 1);
        need(items.size() < 20, 4);
        Item i = new Item();
        i.kind = kind;
        i.found = found;
        i.weight = weight;
        i.worth = worth;
        i.secret = secret;
        turn(i, 0);
        age(i);
        items.add(i);
        return items.size() - 1;
    }

    private int age(Item i) {
        if (i.kind == 2 && i.state == 0 && today >= i.found + spoil) {
            turn(i, 3);
            return 1;
        }
        return 0;
    }

    private static int as(Item i, int kind) {
        need(in(kind, 0, 3), 1);
        need(kind == 0 || kind == i.kind, 5);
        return i.weight;
    }

    private static int trait(Item i, int trait, int worth) {
        return put(i.traits, trait, worth, 15);
    }

    private static int about(Item i, int what) {
        int[] row = {i.kind, i.found, i.weight, i.worth, i.state, i.state == 1 ? i.holder : -1,
            i.traits[0], i.traits[1], i.traits[2], i.traits[3], i.traits[4]};
        need(in(what, 0, 10), 1);
        return row[what];
    }

    private int day(int day) {
        need(in(day, 0, 9999) && day >= today, 1);
        today = day;
        return items.stream().mapToInt(this::age).sum();
    }

    private static int known(Item i, int day) {
        need(in(day, 0, 9999), 1);
        int state = -1;
        for (int[] entry : i.log) {
            if (entry[0] <= day) {
                state = entry[1];
            }
        }
        return state;
    }

    private int seeker(int lost) {
        need(in(lost, 0, 9999), 1);
        need(people.size() < 8, 4);
        Person p = new Person();
        p.lost = lost;
        people.add(p);
        return people.size() - 1;
    }

    private static int word(Person p, int trait, int worth) {
        need(in(trait, 0, 4) && in(worth, -1, 15), 1);
        Integer was = p.words[trait];
        p.words[trait] = worth == -1 ? null : (Integer) worth;
        return was == null ? -1 : was;
    }

    private static int span(Person p, int low, int high) {
        need(in(low, 1, 5000) && in(high, 1, 5000) && low <= high, 1);
        p.low = low;
        p.high = high;
        return 1;
    }

    private int likeness(Person p, Item i) {
        if (i.state != 0 || p.falses >= 3 || i.found < p.lost) {
            return 0;
        }
        int sum = 0;
        for (int t = 0; t < 5; t++) {
            if (p.words[t] != null) {
                sum += p.words[t] == i.traits[t] ? points[t] : -(points[t] / 2);
            }
        }
        sum += p.low <= i.weight && i.weight <= p.high ? 3 : -3;
        return sum < 0 ? 0 : sum;
    }

    private int chance(Person p, Item i) {
        long all = people.stream().mapToLong(q -> (long) likeness(q, i) * likeness(q, i)).sum();
        long own = likeness(p, i);
        return all == 0 ? 0 : (int) (1000 * own * own / all);
    }

    private int bestFrom(int seeker, int used, Map<Long, Integer> memo) {
        if (seeker == people.size()) {
            return 0;
        }
        long key = (long) seeker << 32 | used;
        Integer known = memo.get(key);
        if (known != null) {
            return known;
        }
        int best = bestFrom(seeker + 1, used, memo);
        for (int t = 0; t < items.size(); t++) {
            int like = likeness(people.get(seeker), items.get(t));
            if (like > 0 && (used >> t & 1) == 0) {
                best = Math.max(best, like + bestFrom(seeker + 1, used | 1 << t, memo));
            }
        }
        memo.put(key, best);
        return best;
    }

    private int[] theMatch() {
        Map<Long, Integer> memo = new HashMap<>();
        int[] row = new int[people.size() + 1];
        int total = bestFrom(0, 0, memo);
        row[people.size()] = total;
        int used = 0;
        for (int s = 0; s < people.size(); s++) {
            row[s] = -1;
            for (int t = 0; t < items.size() && row[s] == -1; t++) {
                int like = likeness(people.get(s), items.get(t));
                if (like > 0 && (used >> t & 1) == 0 && like + bestFrom(s + 1, used | 1 << t, memo) == total) {
                    row[s] = t;
                    total -= like;
                    used |= 1 << t;
                }
            }
        }
        return row;
    }

    private int match(int seeker) {
        need(in(seeker, -1, people.size() - 1), 1);
        int[] row = theMatch();
        if (seeker == -1) {
            return row[people.size()];
        }
        need(row[seeker] != -1, 2);
        return row[seeker];
    }

    private int seen(Person p, int number, int what) {
        need(in(what, 0, 3), 1);
        int given = (int) items.stream().filter(i -> i.state == 1 && i.holder == number).count();
        return new int[] {p.lost, p.falses, p.falses >= 3 ? 1 : 0, given}[what];
    }

    private int answer(Person p, int number, Item i, int secret) {
        need(in(secret, 1, 9999), 1);
        need(i.state == 0, 3);
        need(p.falses < 3, 3);
        need(likeness(p, i) > 0, 3);
        if (secret != i.secret) {
            p.falses++;
            return 0;
        }
        turn(i, 1);
        i.holder = number;
        i.given = today;
        return 1;
    }

    private int back(Item i) {
        need(i.state == 1 && today <= i.given + 10, 3);
        turn(i, 0);
        return i.holder;
    }

    private int address(int word, int post) {
        need(word >= 1 && Integer.toString(word).matches("[1-9]{1,8}") && in(post, 0, 1000), 1);
        need(words.size() < 16, 4);
        words.add(Integer.toString(word));
        posts.add(post);
        return words.size() - 1;
    }

    private int post(int address, int n) {
        need(in(address, 0, words.size() - 1) && in(n, 0, 1000), 1);
        return posts.set(address, n);
    }

    /** A label as a pattern for the whole word. */
    private static String pattern(int label, int torn) {
        need(torn >= 10 && torn <= 89 && torn % 10 <= 3 && label >= 0, 1);
        int places = torn / 10;
        String digits = Integer.toString(label);
        need(digits.length() <= places, 1);
        String middle = ("0".repeat(places - digits.length()) + digits).replace('0', '.');
        int how = torn % 10;
        return (how == 2 || how == 3 ? ".*" : "") + middle + (how == 1 || how == 3 ? ".*" : "");
    }

    private int fits(int address, int label, int torn) {
        need(in(address, 0, words.size() - 1), 1);
        return words.get(address).matches(pattern(label, torn)) ? 1 : 0;
    }

    private List<Integer> likelyOnes(int label, int torn) {
        String pattern = pattern(label, torn);
        List<Integer> ones = new ArrayList<>();
        for (int i = 0; i < words.size(); i++) {
            if (words.get(i).matches(pattern)) {
                ones.add(i);
            }
        }
        ones.sort(Comparator.comparing((Integer i) -> -posts.get(i)).thenComparing(i -> i));
        return ones;
    }

    private int likely(int label, int torn, int i) {
        List<Integer> ones = likelyOnes(label, torn);
        need(i >= 0, 1);
        need(i < ones.size(), 2);
        return ones.get(i);
    }

    private int share(int address, int label, int torn) {
        need(in(address, 0, words.size() - 1), 1);
        List<Integer> ones = likelyOnes(label, torn);
        int all = ones.stream().mapToInt(posts::get).sum();
        need(ones.contains(address) && all > 0, 2);
        return posts.get(address) * 1000 / all;
    }

    private boolean free(Item i) {
        return i.state == 0 && i.kind != 1 && today >= i.found + 30 * months[i.kind];
    }

    private int sellable() {
        int bits = 0;
        for (int t = 0; t < items.size(); t++) {
            bits += free(items.get(t)) ? 1 << t : 0;
        }
        return bits;
    }

    private List<Integer> members(int set) {
        List<Integer> numbers = new ArrayList<>();
        for (int t = 0; t < 32; t++) {
            if ((set >>> t & 1) == 1) {
                need(t < items.size(), 1);
                numbers.add(t);
            }
        }
        return numbers;
    }

    private int sell(int set, int sum) {
        List<Integer> numbers = members(set);
        need(!numbers.isEmpty() && in(sum, 0, 100000), 1);
        need(numbers.stream().allMatch(t -> free(items.get(t))), 3);
        long worths = numbers.stream().mapToLong(t -> items.get(t).worth).sum();
        int given = 0;
        for (int t : numbers) {
            Item i = items.get(t);
            i.share = worths == 0 ? sum / numbers.size() : (int) ((long) sum * i.worth / worths);
            i.soldOn = today;
            turn(i, 2);
            given += i.share;
        }
        int over = sum - given;
        for (int k = 0; k < over; k++) {
            items.get(numbers.get(k)).share++;
        }
        return over;
    }

    private int owed(Person p, Item i, int secret) {
        need(in(secret, 1, 9999), 1);
        need(i.state == 2 && !i.paid && today <= i.soldOn + 1095 && p.falses < 3, 3);
        if (secret != i.secret) {
            p.falses++;
            throw new Finding(2);
        }
        i.paid = true;
        int sum = i.share - i.share / 10;
        paid += sum;
        return sum;
    }

    private int lots(int set, int low, int high, int what) {
        List<Integer> numbers = members(set);
        need(in(low, 0, 100000) && in(high, 0, 100000) && low <= high && what >= 0, 1);
        need(!numbers.isEmpty() && numbers.size() <= 10 && numbers.stream().allMatch(t -> free(items.get(t))), 3);
        List<Integer> best = new ArrayList<>();
        allPartings(numbers, 0, new ArrayList<>(), low, high, best);
        need(!best.isEmpty() && what <= best.size(), 2);
        return what == 0 ? best.size() : best.get(what - 1);
    }

    /** Every parting, by putting each thing into a lot that is there or into a new one. */
    private void allPartings(List<Integer> numbers, int at, List<Integer> lots, int low, int high, List<Integer> best) {
        if (at == numbers.size()) {
            boolean fine = lots.stream().allMatch(lot -> in(worthOf(lot), low, high));
            if (fine && (best.isEmpty() || isBefore(lots, best))) {
                best.clear();
                best.addAll(lots);
            }
            return;
        }
        int bit = 1 << numbers.get(at);
        for (int k = 0; k < lots.size(); k++) {
            lots.set(k, lots.get(k) | bit);
            allPartings(numbers, at + 1, lots, low, high, best);
            lots.set(k, lots.get(k) & ~bit);
        }
        lots.add(bit);
        allPartings(numbers, at + 1, lots, low, high, best);
        lots.remove(lots.size() - 1);
    }

    private int worthOf(int lot) {
        return members(lot).stream().mapToInt(t -> items.get(t).worth).sum();
    }

    private static boolean isBefore(List<Integer> lots, List<Integer> best) {
        if (lots.size() != best.size()) {
            return lots.size() < best.size();
        }
        for (int k = 0; k < lots.size(); k++) {
            if (!lots.get(k).equals(best.get(k))) {
                return lots.get(k) < best.get(k);
            }
        }
        return false;
    }

    private int sorted(int machine, int torn) {
        need(in(machine, 0, 5) && in(torn, 0, 1), 1);
        need(records.size() < 60, 4);
        records.add(new int[] {machine, torn});
        return records.size();
    }

    private static BigInteger ways(int some, int from) {
        if (some < 0 || some > from) {
            return BigInteger.ZERO;
        }
        BigInteger above = BigInteger.ONE;
        BigInteger below = BigInteger.ONE;
        for (int k = 1; k <= some; k++) {
            above = above.multiply(BigInteger.valueOf(from - some + k));
            below = below.multiply(BigInteger.valueOf(k));
        }
        return above.divide(below);
    }

    private int sorter(int machine, int what) {
        need(in(machine, 0, 5) && in(what, 0, 2), 1);
        int all = records.size();
        int torn = (int) records.stream().filter(r -> r[1] == 1).count();
        int own = (int) records.stream().filter(r -> r[0] == machine).count();
        int both = (int) records.stream().filter(r -> r[0] == machine && r[1] == 1).count();
        BigInteger sum = BigInteger.ZERO;
        for (int k = both; k <= torn; k++) {
            sum = sum.add(ways(k, torn).multiply(ways(own - k, all - torn)));
        }
        boolean beyond = both > 0 && sum.multiply(BigInteger.valueOf(20)).compareTo(ways(own, all)) <= 0;
        return new int[] {own, both, beyond ? 1 : 0}[what];
    }

    private static int money(Item i, int hand, int money) {
        need(in(hand, 0, 3) && in(money, 0, 100000), 1);
        need(i.kind == 3, 5);
        need(i.state == 0, 3);
        i.hands.put(hand, money);
        return i.hands.size();
    }

    private static int counted(Item i) {
        need(i.kind == 3, 5);
        Map<Integer, Integer> by = new HashMap<>();
        i.hands.values().forEach(m -> by.merge(m, 1, Integer::sum));
        Set<Integer> agreed = new HashSet<>();
        for (int m : by.keySet()) {
            boolean most = by.keySet().stream().allMatch(o -> o == m || by.get(o) < by.get(m));
            if (by.get(m) >= 2 && most) {
                agreed.add(m);
            }
        }
        need(agreed.size() == 1, 2);
        return agreed.iterator().next();
    }

    private int burst(int set, int weight, int more) {
        List<Integer> numbers = members(set);
        need(in(weight, 1, 100000) && in(more, 0, 1000), 1);
        need(numbers.size() <= 14 && numbers.stream().allMatch(t -> items.get(t).state == 0), 3);
        int[] best = null;
        for (int some = set; some > 0; some = some - 1 & set) {
            int sum = 0;
            for (int t : numbers) {
                sum += (some >> t & 1) * items.get(t).weight;
            }
            int[] way = {Math.abs(sum - weight), Integer.bitCount(some), some};
            if (way[0] <= more && (best == null || Arrays.compare(way, best) < 0)) {
                best = way;
            }
        }
        need(best != null, 2);
        return best[2];
    }

    private int check() {
        int[] row = theMatch();
        List<Integer> told = new ArrayList<>(waits);
        waits.clear();
        for (int k = 0; k < told.size(); k++) {
            if (k >= people.size() || told.get(k) != row[k]) {
                return k + 1;
            }
        }
        return 0;
    }

    private int count(int what) {
        need(in(what, 0, 10), 1);
        int[] states = new int[4];
        items.forEach(i -> states[i.state]++);
        return new int[] {items.size(), states[0], states[1], states[2], states[3], people.size(), words.size(), today,
            records.size(), waits.size(), paid}[what];
    }
}
