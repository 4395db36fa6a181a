import java.util.ArrayList;
import java.util.Arrays;

/** A depot of parcels without names, as ../shared/DOC.md tells it; "promise n" below is that document's number. */
public final class LostParcels {
    private static final int LOW = -1000000;
    private static final int BEYOND = 1;
    private static final int NONE = 2;
    private static final int STATE = 3;
    private static final int FULL = 4;
    private static final int KIND = 5;

    private static final int THING = 0;
    private static final int LETTER = 1;
    private static final int FOOD = 2;
    private static final int PURSE = 3;

    private static final int KEPT = 0;
    private static final int GIVEN = 1;
    private static final int SOLD = 2;
    private static final int SPOILT = 3;

    private static final int LAST_DAY = 9999;
    private static final int MOST_THINGS = 20;
    private static final int MOST_SEEKERS = 8;
    private static final int MOST_ADDRESSES = 16;
    private static final int MOST_WAITING = 20;
    private static final int MOST_RECORDS = 60;
    private static final int MOST_LOT_THINGS = 10;
    private static final int MOST_BURST_THINGS = 14;

    private static final int KINDS = 4;
    private static final int TRAITS = 5;
    private static final int MACHINES = 6;
    private static final int HANDS = 4;

    private static final int MOST_TRAIT = 15;
    private static final int MOST_WEIGHT = 5000;
    private static final int MOST_WORTH = 10000;
    private static final int MOST_SECRET = 9999;
    private static final int MOST_SPOIL = 30;
    private static final int MOST_POINTS = 20;
    private static final int MOST_POST = 1000;
    private static final int MOST_MONTHS = 60;
    private static final int MOST_SUM = 100000;
    private static final int MOST_WORD = 99999999;
    private static final int MOST_MORE = 1000;

    private static final int WEIGHT_POINTS = 3;
    private static final int BARRING_FALSES = 3;
    private static final int DAYS_OF_A_MONTH = 30;
    private static final int DAYS_TO_COME_BACK = 10;
    private static final int DAYS_TO_CLAIM = 1095;
    private static final int NOBODY = -1;
    private static final int NOTHING = -1;

    private static final int[] TENS = {1, 10, 100, 1000, 10000, 100000, 1000000, 10000000, 100000000};

    private final ArrayList<Thing> things = new ArrayList<>();
    private final ArrayList<Seeker> seekers = new ArrayList<>();
    private final ArrayList<Address> addresses = new ArrayList<>();
    private final int[] traitPoints = new int[TRAITS];
    private final int[] monthsKept = new int[KINDS];
    private final int[] findingsTold = new int[KIND + 1];
    private final int[] waiting = new int[MOST_WAITING];
    // The things of a told set by their numbers, least first: filled anew by each act that takes a set.
    private final ArrayList<Thing> chosen = new ArrayList<>();
    private final Matching matching = new Matching();
    private final Parting parting = new Parting();
    private final Gathering gathering = new Gathering();
    private final Records records = new Records();
    private int waitingCount = 0;
    private int today = 0;
    private int spoilDays = 3;
    private int paidInAll = 0;

    public LostParcels() {
        Arrays.fill(traitPoints, 4);
        Arrays.fill(monthsKept, 12);
    }

    // ---- things

    public int thing(int kind, int found, int weight, int worth, int secret) {
        if (!within(kind, THING, PURSE) || !within(found, 0, today) || !within(weight, 1, MOST_WEIGHT)
                || !within(worth, 0, MOST_WORTH) || !within(secret, 1, MOST_SECRET)) {
            return finding(BEYOND);
        }
        if (things.size() >= MOST_THINGS) {
            return finding(FULL);
        }
        Thing told = kind == PURSE
                ? new Purse(found, weight, worth, secret) : new Thing(kind, found, weight, worth, secret);
        told.become(KEPT, today);
        spoilIfOld(told);
        things.add(told);
        return things.size() - 1;
    }

    public int as(int thing, int kind) {
        Thing asked = thingOf(thing);
        if (asked == null || !within(kind, THING, PURSE)) {
            return finding(BEYOND);
        }
        if (kind != THING && kind != asked.kind) {
            return finding(KIND);
        }
        return asked.weight;
    }

    public int trait(int thing, int trait, int worth) {
        Thing asked = thingOf(thing);
        if (asked == null || !within(trait, 0, TRAITS - 1) || !within(worth, 0, MOST_TRAIT)) {
            return finding(BEYOND);
        }
        int before = asked.traits[trait];
        asked.traits[trait] = worth;
        return before;
    }

    public int about(int thing, int what) {
        Thing asked = thingOf(thing);
        if (asked == null || !within(what, 0, 5 + TRAITS)) {
            return finding(BEYOND);
        }
        switch (what) {
            case 0: return asked.kind;
            case 1: return asked.foundOn;
            case 2: return asked.weight;
            case 3: return asked.worth;
            case 4: return asked.state;
            case 5: return asked.holder;
            default: return asked.traits[what - 6];
        }
    }

    public int day(int day) {
        if (!within(day, today, LAST_DAY)) {
            return finding(BEYOND);
        }
        today = day;
        int spoilt = 0;
        for (int i = 0; i < things.size(); i++) {
            if (spoilIfOld(things.get(i))) {
                spoilt++;
            }
        }
        return spoilt;
    }

    public int spoil(int days) {
        if (!within(days, 0, MOST_SPOIL)) {
            return finding(BEYOND);
        }
        int before = spoilDays;
        spoilDays = days;
        return before;
    }

    public int known(int thing, int day) {
        Thing asked = thingOf(thing);
        if (asked == null || !isDay(day)) {
            return finding(BEYOND);
        }
        return asked.stateBy(day);
    }

    // ---- seekers

    public int seeker(int lost) {
        if (!isDay(lost)) {
            return finding(BEYOND);
        }
        if (seekers.size() >= MOST_SEEKERS) {
            return finding(FULL);
        }
        seekers.add(new Seeker(lost));
        return seekers.size() - 1;
    }

    public int word(int seeker, int trait, int worth) {
        Seeker asked = seekerOf(seeker);
        if (asked == null || !within(trait, 0, TRAITS - 1) || !within(worth, NOTHING, MOST_TRAIT)) {
            return finding(BEYOND);
        }
        int before = asked.words[trait];
        asked.words[trait] = worth;
        return before;
    }

    public int span(int seeker, int low, int high) {
        Seeker asked = seekerOf(seeker);
        if (asked == null || !within(low, 1, MOST_WEIGHT) || !within(high, low, MOST_WEIGHT)) {
            return finding(BEYOND);
        }
        asked.lightest = low;
        asked.heaviest = high;
        return 1;
    }

    public int points(int trait, int n) {
        if (!within(trait, 0, TRAITS - 1) || !within(n, 0, MOST_POINTS)) {
            return finding(BEYOND);
        }
        int before = traitPoints[trait];
        traitPoints[trait] = n;
        return before;
    }

    public int likeness(int seeker, int thing) {
        Seeker who = seekerOf(seeker);
        Thing what = thingOf(thing);
        if (who == null || what == null) {
            return finding(BEYOND);
        }
        return likenessOf(who, what);
    }

    public int chance(int seeker, int thing) {
        Seeker who = seekerOf(seeker);
        Thing what = thingOf(thing);
        if (who == null || what == null) {
            return finding(BEYOND);
        }
        int all = 0;
        for (int i = 0; i < seekers.size(); i++) {
            int rival = likenessOf(seekers.get(i), what);
            all += rival * rival;
        }
        int own = likenessOf(who, what);
        return all == 0 ? 0 : 1000 * own * own / all;
    }

    public int match(int seeker) {
        if (!within(seeker, NOBODY, seekers.size() - 1)) {
            return finding(BEYOND);
        }
        long best = bestMatch();
        if (seeker == NOBODY) {
            return Matching.likenessesIn(best);
        }
        int matched = Matching.thingIn(best, seeker);
        return matched == NOTHING ? finding(NONE) : matched;
    }

    public int seen(int seeker, int what) {
        Seeker asked = seekerOf(seeker);
        if (asked == null || !within(what, 0, 3)) {
            return finding(BEYOND);
        }
        switch (what) {
            case 0: return asked.lostOn;
            case 1: return asked.falses;
            case 2: return asked.isBarred() ? 1 : 0;
            default: return heldBy(seeker);
        }
    }

    public int answer(int seeker, int thing, int secret) {
        Seeker who = seekerOf(seeker);
        Thing what = thingOf(thing);
        if (who == null || what == null || !within(secret, 1, MOST_SECRET)) {
            return finding(BEYOND);
        }
        if (likenessOf(who, what) == 0) {
            // A thing that isn't kept and a seeker who is barred have no likeness either.
            return finding(STATE);
        }
        if (secret != what.secret) {
            who.falses++;
            return 0;
        }
        what.become(GIVEN, today);
        what.holder = seeker;
        what.leftOn = today;
        return 1;
    }

    public int back(int thing) {
        Thing asked = thingOf(thing);
        if (asked == null) {
            return finding(BEYOND);
        }
        if (asked.state != GIVEN || today - asked.leftOn > DAYS_TO_COME_BACK) {
            return finding(STATE);
        }
        int before = asked.holder;
        asked.become(KEPT, today);
        asked.holder = NOBODY;
        return before;
    }

    // ---- addresses

    public int address(int word, int post) {
        if (!isWord(word) || !within(post, 0, MOST_POST)) {
            return finding(BEYOND);
        }
        if (addresses.size() >= MOST_ADDRESSES) {
            return finding(FULL);
        }
        addresses.add(new Address(word, digitsOf(word), post));
        return addresses.size() - 1;
    }

    public int post(int address, int n) {
        Address asked = addressOf(address);
        if (asked == null || !within(n, 0, MOST_POST)) {
            return finding(BEYOND);
        }
        int before = asked.post;
        asked.post = n;
        return before;
    }

    public int fits(int address, int label, int torn) {
        Address asked = addressOf(address);
        if (asked == null || !isLabel(label, torn)) {
            return finding(BEYOND);
        }
        return asked.takes(label, torn / 10, torn % 10) ? 1 : 0;
    }

    public int likely(int label, int torn, int i) {
        if (!isLabel(label, torn) || i < 0) {
            return finding(BEYOND);
        }
        int fitting = fittingBits(label, torn);
        for (int number = 0; number < addresses.size(); number++) {
            if (hasBit(fitting, number) && rankAmong(fitting, number) == i) {
                return number;
            }
        }
        return finding(NONE);
    }

    public int share(int address, int label, int torn) {
        Address asked = addressOf(address);
        if (asked == null || !isLabel(label, torn)) {
            return finding(BEYOND);
        }
        int fitting = fittingBits(label, torn);
        int all = 0;
        for (int i = 0; i < addresses.size(); i++) {
            if (hasBit(fitting, i)) {
                all += addresses.get(i).post;
            }
        }
        if (!hasBit(fitting, address) || all == 0) {
            return finding(NONE);
        }
        return asked.post * 1000 / all;
    }

    // ---- the law, sales

    public int law(int kind, int months) {
        if (!within(kind, THING, PURSE) || !within(months, 0, MOST_MONTHS)) {
            return finding(BEYOND);
        }
        int before = monthsKept[kind];
        monthsKept[kind] = months;
        return before;
    }

    public int sellable() {
        int bits = 0;
        for (int i = 0; i < things.size(); i++) {
            if (mayBeSold(things.get(i))) {
                bits |= 1 << i;
            }
        }
        return bits;
    }

    public int sell(int set, int sum) {
        if (set == 0 || hasBitOfNoThing(set) || !within(sum, 0, MOST_SUM)) {
            return finding(BEYOND);
        }
        choose(set);
        if (!chosenMayBeSold()) {
            return finding(STATE);
        }
        int worths = chosenWorths();
        int left = sum;
        for (int i = 0; i < chosen.size(); i++) {
            Thing sale = chosen.get(i);
            sale.become(SOLD, today);
            sale.leftOn = today;
            sale.share = worths == 0 ? sum / chosen.size() : sum * sale.worth / worths;
            left -= sale.share;
        }
        for (int i = 0; i < chosen.size() && i < left; i++) {
            chosen.get(i).share++;
        }
        return left;
    }

    public int sold(int thing) {
        Thing asked = thingOf(thing);
        if (asked == null) {
            return finding(BEYOND);
        }
        return asked.state == SOLD ? asked.share : finding(STATE);
    }

    public int owed(int seeker, int thing, int secret) {
        Seeker who = seekerOf(seeker);
        Thing what = thingOf(thing);
        if (who == null || what == null || !within(secret, 1, MOST_SECRET)) {
            return finding(BEYOND);
        }
        if (what.state != SOLD || what.paid || today - what.leftOn > DAYS_TO_CLAIM || who.isBarred()) {
            return finding(STATE);
        }
        if (secret != what.secret) {
            who.falses++;
            return finding(NONE);
        }
        int payment = what.share - what.share / 10;
        what.paid = true;
        paidInAll += payment;
        return payment;
    }

    public int lots(int set, int low, int high, int what) {
        if (hasBitOfNoThing(set) || !within(low, 0, MOST_SUM) || !within(high, low, MOST_SUM) || what < 0) {
            return finding(BEYOND);
        }
        choose(set);
        if (chosen.isEmpty() || chosen.size() > MOST_LOT_THINGS || !chosenMayBeSold()) {
            return finding(STATE);
        }
        parting.part(chosen, low, high);
        int lots = parting.fewestLots();
        if (lots == 0 || what > lots) {
            return finding(NONE);
        }
        return what == 0 ? lots : spread(parting.lotAt(what - 1), set);
    }

    // ---- sorters, money, bursts

    public int sorted(int machine, int torn) {
        if (!within(machine, 0, MACHINES - 1) || !within(torn, 0, 1)) {
            return finding(BEYOND);
        }
        if (records.all >= MOST_RECORDS) {
            return finding(FULL);
        }
        records.add(machine, torn);
        return records.all;
    }

    public int sorter(int machine, int what) {
        if (!within(machine, 0, MACHINES - 1) || !within(what, 0, 2)) {
            return finding(BEYOND);
        }
        switch (what) {
            case 0: return records.ofMachine[machine];
            case 1: return records.tornOfMachine[machine];
            default: return records.isBeyondChance(machine) ? 1 : 0;
        }
    }

    public int money(int thing, int hand, int money) {
        Thing asked = thingOf(thing);
        if (asked == null || !within(hand, 0, HANDS - 1) || !within(money, 0, MOST_SUM)) {
            return finding(BEYOND);
        }
        if (!(asked instanceof Purse purse)) {
            return finding(KIND);
        }
        if (purse.state != KEPT) {
            return finding(STATE);
        }
        purse.counts[hand] = money;
        return purse.handsThatCounted();
    }

    public int counted(int thing) {
        Thing asked = thingOf(thing);
        if (asked == null) {
            return finding(BEYOND);
        }
        if (!(asked instanceof Purse purse)) {
            return finding(KIND);
        }
        int agreed = purse.agreedCount();
        return agreed == NOTHING ? finding(NONE) : agreed;
    }

    public int burst(int set, int weight, int more) {
        if (hasBitOfNoThing(set) || !within(weight, 1, MOST_SUM) || !within(more, 0, MOST_MORE)) {
            return finding(BEYOND);
        }
        choose(set);
        if (chosen.size() > MOST_BURST_THINGS || !chosenAreKept()) {
            return finding(STATE);
        }
        int parts = gathering.nearest(chosen, weight, more);
        return parts == 0 ? finding(NONE) : spread(parts, set);
    }

    // ---- what is told

    public int tell(int v) {
        if (waitingCount >= MOST_WAITING) {
            return finding(FULL);
        }
        waiting[waitingCount] = v;
        waitingCount++;
        return waitingCount;
    }

    public int check() {
        long best = bestMatch();
        int told = waitingCount;
        waitingCount = 0;
        for (int i = 0; i < told; i++) {
            if (i >= seekers.size() || waiting[i] != Matching.thingIn(best, i)) {
                return 1 + i;
            }
        }
        return 0;
    }

    public int count(int what) {
        switch (what) {
            case 0: return things.size();
            case 1: return thingsThatAre(KEPT);
            case 2: return thingsThatAre(GIVEN);
            case 3: return thingsThatAre(SOLD);
            case 4: return thingsThatAre(SPOILT);
            case 5: return seekers.size();
            case 6: return addresses.size();
            case 7: return today;
            case 8: return records.all;
            case 9: return waitingCount;
            case 10: return paidInAll;
            default: return finding(BEYOND);
        }
    }

    public int found(int k) {
        return within(k, BEYOND, KIND) ? findingsTold[k] : finding(BEYOND);
    }

    // ---- what the acts share

    private int finding(int which) {
        findingsTold[which]++;
        return LOW - which;
    }

    private static boolean within(int number, int low, int high) {
        return number >= low && number <= high;
    }

    private static boolean isDay(int number) {
        return within(number, 0, LAST_DAY);
    }

    private static boolean hasBit(int bits, int place) {
        return (bits >> place & 1) == 1;
    }

    private Thing thingOf(int number) {
        return within(number, 0, things.size() - 1) ? things.get(number) : null;
    }

    private Seeker seekerOf(int number) {
        return within(number, 0, seekers.size() - 1) ? seekers.get(number) : null;
    }

    private Address addressOf(int number) {
        return within(number, 0, addresses.size() - 1) ? addresses.get(number) : null;
    }

    private boolean spoilIfOld(Thing thing) {
        if (thing.kind != FOOD || thing.state != KEPT || today - thing.foundOn < spoilDays) {
            return false;
        }
        thing.become(SPOILT, today);
        return true;
    }

    private int thingsThatAre(int state) {
        int number = 0;
        for (int i = 0; i < things.size(); i++) {
            if (things.get(i).state == state) {
                number++;
            }
        }
        return number;
    }

    private int heldBy(int seeker) {
        int number = 0;
        for (int i = 0; i < things.size(); i++) {
            if (things.get(i).holder == seeker) {
                number++;
            }
        }
        return number;
    }

    private int likenessOf(Seeker who, Thing what) {
        if (what.state != KEPT || who.isBarred() || what.foundOn < who.lostOn) {
            return 0;
        }
        int sum = within(what.weight, who.lightest, who.heaviest) ? WEIGHT_POINTS : -WEIGHT_POINTS;
        for (int i = 0; i < TRAITS; i++) {
            if (who.words[i] == what.traits[i]) {
                sum += traitPoints[i];
            } else if (who.words[i] != NOTHING) {
                sum -= traitPoints[i] / 2;
            }
        }
        return Math.max(sum, 0);
    }

    private long bestMatch() {
        matching.begin(seekers.size());
        for (int t = 0; t < things.size(); t++) {
            for (int s = 0; s < seekers.size(); s++) {
                matching.weigh(s, t, likenessOf(seekers.get(s), things.get(t)));
            }
            matching.offer();
        }
        return matching.best();
    }

    private static int digitsOf(int word) {
        int digits = 1;
        while (digits < TENS.length - 1 && word >= TENS[digits]) {
            digits++;
        }
        return digits;
    }

    private static boolean isWord(int word) {
        if (!within(word, 1, MOST_WORD)) {
            return false;
        }
        for (int place = 0; place < digitsOf(word); place++) {
            if (word / TENS[place] % 10 == 0) {
                return false;
            }
        }
        return true;
    }

    private static boolean isLabel(int label, int torn) {
        int places = torn / 10;
        return torn >= 0 && within(places, 1, TENS.length - 1) && torn % 10 <= Address.TORN_BOTH
                && within(label, 0, TENS[places] - 1);
    }

    private int fittingBits(int label, int torn) {
        int bits = 0;
        for (int i = 0; i < addresses.size(); i++) {
            if (addresses.get(i).takes(label, torn / 10, torn % 10)) {
                bits |= 1 << i;
            }
        }
        return bits;
    }

    private int rankAmong(int fitting, int number) {
        int own = addresses.get(number).post;
        int rank = 0;
        for (int i = 0; i < addresses.size(); i++) {
            int other = addresses.get(i).post;
            if (hasBit(fitting, i) && (other > own || other == own && i < number)) {
                rank++;
            }
        }
        return rank;
    }

    private boolean mayBeSold(Thing thing) {
        return thing.state == KEPT && thing.kind != LETTER
                && today - thing.foundOn >= monthsKept[thing.kind] * DAYS_OF_A_MONTH;
    }

    private boolean hasBitOfNoThing(int set) {
        return set >>> things.size() != 0;
    }

    private void choose(int set) {
        chosen.clear();
        for (int i = 0; i < things.size(); i++) {
            if (hasBit(set, i)) {
                chosen.add(things.get(i));
            }
        }
    }

    private boolean chosenMayBeSold() {
        for (int i = 0; i < chosen.size(); i++) {
            if (!mayBeSold(chosen.get(i))) {
                return false;
            }
        }
        return true;
    }

    private boolean chosenAreKept() {
        for (int i = 0; i < chosen.size(); i++) {
            if (chosen.get(i).state != KEPT) {
                return false;
            }
        }
        return true;
    }

    private int chosenWorths() {
        int worths = 0;
        for (int i = 0; i < chosen.size(); i++) {
            worths += chosen.get(i).worth;
        }
        return worths;
    }

    // Bit i of the parts stands for the i-th thing of the set, so an order by parts is one by things, too.
    private static int spread(int parts, int set) {
        int bits = 0;
        int next = 0;
        for (int i = 0; i < MOST_THINGS; i++) {
            if (hasBit(set, i)) {
                if (hasBit(parts, next)) {
                    bits |= 1 << i;
                }
                next++;
            }
        }
        return bits;
    }

    /** What a thing became on a day, and the change ahead of it. */
    private static final class Change {
        final int day;
        final Change earlier;
        int state;

        Change(int day, int state, Change earlier) {
            this.day = day;
            this.state = state;
            this.earlier = earlier;
        }
    }

    private static class Thing {
        final int kind;
        final int foundOn;
        final int weight;
        final int worth;
        final int secret;
        final int[] traits = new int[TRAITS];
        int state = KEPT;
        int holder = NOBODY;
        int leftOn = 0;
        int share = 0;
        boolean paid = false;
        private Change last = null;

        Thing(int kind, int foundOn, int weight, int worth, int secret) {
            this.kind = kind;
            this.foundOn = foundOn;
            this.weight = weight;
            this.worth = worth;
            this.secret = secret;
        }

        // Only the last state of a day is ever asked for, so a day needs one change at most.
        final void become(int state, int day) {
            this.state = state;
            if (last != null && last.day == day) {
                last.state = state;
            } else {
                last = new Change(day, state, last);
            }
        }

        final int stateBy(int day) {
            for (Change change = last; change != null; change = change.earlier) {
                if (change.day <= day) {
                    return change.state;
                }
            }
            return NOTHING;
        }
    }

    private static final class Purse extends Thing {
        final int[] counts = new int[HANDS];

        Purse(int foundOn, int weight, int worth, int secret) {
            super(PURSE, foundOn, weight, worth, secret);
            Arrays.fill(counts, NOTHING);
        }

        int handsThatCounted() {
            return HANDS - handsWith(NOTHING);
        }

        // Two numbers that two hands or more agree on have two of the four hands each: then neither holds.
        int agreedCount() {
            int agreed = NOTHING;
            for (int i = 0; i < HANDS; i++) {
                if (counts[i] == NOTHING || counts[i] == agreed || handsWith(counts[i]) < 2) {
                    continue;
                }
                if (agreed != NOTHING) {
                    return NOTHING;
                }
                agreed = counts[i];
            }
            return agreed;
        }

        private int handsWith(int money) {
            int hands = 0;
            for (int i = 0; i < HANDS; i++) {
                if (counts[i] == money) {
                    hands++;
                }
            }
            return hands;
        }
    }

    private static final class Seeker {
        final int lostOn;
        final int[] words = new int[TRAITS];
        int lightest = 1;
        int heaviest = MOST_WEIGHT;
        int falses = 0;

        Seeker(int lostOn) {
            this.lostOn = lostOn;
            Arrays.fill(words, NOTHING);
        }

        boolean isBarred() {
            return falses >= BARRING_FALSES;
        }
    }

    private static final class Address {
        static final int TORN_BEHIND = 1;
        static final int TORN_AHEAD = 2;
        static final int TORN_BOTH = 3;

        final int letters;
        final int length;
        int post;

        Address(int letters, int length, int post) {
            this.letters = letters;
            this.length = length;
            this.post = post;
        }

        boolean takes(int label, int places, int torn) {
            int over = length - places;
            for (int behind = 0; behind <= over; behind++) {
                boolean behindIsFine = behind == 0 || (torn & TORN_BEHIND) != 0;
                boolean aheadIsFine = behind == over || (torn & TORN_AHEAD) != 0;
                if (behindIsFine && aheadIsFine && agrees(label, places, behind)) {
                    return true;
                }
            }
            return false;
        }

        private boolean agrees(int label, int places, int behind) {
            for (int i = 0; i < places && i + behind < length; i++) {
                int letter = label / TENS[i] % 10;
                if (letter != 0 && letter != letters / TENS[i + behind] % 10) {
                    return false;
                }
            }
            return true;
        }
    }

    /**
     * Finds the match, a thing at a time. A way to give things is held as one number: its likenesses together, and
     * below them a digit for each seeker, the first one's highest, that is greater the less the thing is. So the
     * greatest number is the match itself, with what decides among equals, and the things can be read from it.
     */
    private static final class Matching {
        static final int BASE = MOST_THINGS + 1;
        static final long[] PLACES = {1801088541L, 85766121L, 4084101L, 194481L, 9261L, 441L, 21L, 1L};
        static final long ONE_LIKENESS = 37822859361L;

        private final long[] bestOf = new long[1 << MOST_SEEKERS];
        private final long[] weights = new long[MOST_SEEKERS];
        private int seekers = 0;

        static int likenessesIn(long way) {
            return (int) (way / ONE_LIKENESS);
        }

        static int thingIn(long way, int seeker) {
            int digit = (int) (way / PLACES[seeker] % BASE);
            return digit == 0 ? NOTHING : MOST_THINGS - digit;
        }

        void begin(int seekers) {
            this.seekers = seekers;
            Arrays.fill(bestOf, 0L);
        }

        void weigh(int seeker, int thing, int likeness) {
            weights[seeker] = likeness == 0 ? 0L : likeness * ONE_LIKENESS + (MOST_THINGS - thing) * PLACES[seeker];
        }

        // Greater sets first: the lesser ones that they look at do not hold this thing yet.
        void offer() {
            for (int set = (1 << seekers) - 1; set > 0; set--) {
                for (int s = 0; s < seekers; s++) {
                    if (hasBit(set, s) && weights[s] > 0) {
                        bestOf[set] = Math.max(bestOf[set], bestOf[set ^ 1 << s] + weights[s]);
                    }
                }
            }
        }

        long best() {
            return bestOf[(1 << seekers) - 1];
        }
    }

    /** Parts things into the fewest lots, by the fewest lots of each of their subsets. */
    private static final class Parting {
        static final int NO_WAY = MOST_LOT_THINGS + 1;

        private final int[] worthOf = new int[1 << MOST_LOT_THINGS];
        private final int[] fewestOf = new int[1 << MOST_LOT_THINGS];
        private int low = 0;
        private int high = 0;
        private int all = 0;

        void part(ArrayList<Thing> things, int low, int high) {
            this.low = low;
            this.high = high;
            int size = Math.min(things.size(), MOST_LOT_THINGS);
            all = (1 << size) - 1;
            for (int i = 0; i < size; i++) {
                for (int rest = 0; rest < 1 << i; rest++) {
                    worthOf[rest | 1 << i] = worthOf[rest] + things.get(i).worth;
                }
            }
            for (int set = 1; set <= all; set++) {
                int lot = bestLot(set);
                fewestOf[set] = lot == 0 ? NO_WAY : 1 + fewestOf[set ^ lot];
            }
        }

        int fewestLots() {
            return fewestOf[all] == NO_WAY ? 0 : fewestOf[all];
        }

        int lotAt(int place) {
            int set = all;
            for (int i = 0; i < place; i++) {
                set ^= bestLot(set);
            }
            return bestLot(set);
        }

        // The lot with the first thing of the set; lots come from the least on, so only a better one replaces it.
        private int bestLot(int set) {
            int first = set & -set;
            int others = set ^ first;
            int ways = 1 << Integer.bitCount(others);
            int best = 0;
            int fewest = NO_WAY;
            int some = 0;
            for (int i = 0; i < ways; i++) {
                int lot = first | some;
                if (within(worthOf[lot], low, high) && fewestOf[set ^ lot] < fewest) {
                    best = lot;
                    fewest = fewestOf[set ^ lot];
                }
                some = (some - others) & others;
            }
            return best;
        }
    }

    /** Finds the parts of a burst. */
    private static final class Gathering {
        private final int[] weightAhead = new int[MOST_BURST_THINGS];

        int nearest(ArrayList<Thing> things, int weight, int more) {
            int size = Math.min(things.size(), MOST_BURST_THINGS);
            int together = 0;
            for (int i = 0; i < size; i++) {
                weightAhead[i] = together;
                together += things.get(i).weight;
            }
            int best = 0;
            int bestGap = more + 1;
            int sum = 0;
            for (int set = 1; set < 1 << size; set++) {
                // Counting on by one puts in the set's first thing and takes out all that stand ahead of it.
                int first = Integer.numberOfTrailingZeros(set);
                sum += things.get(first).weight - weightAhead[first];
                int gap = Math.abs(sum - weight);
                if (gap < bestGap || gap == bestGap && Integer.bitCount(set) < Integer.bitCount(best)) {
                    best = set;
                    bestGap = gap;
                }
            }
            return best;
        }
    }

    /** What sorters did, and whether one tears more than chance would. */
    private static final class Records {
        final int[] ofMachine = new int[MACHINES];
        final int[] tornOfMachine = new int[MACHINES];
        int all = 0;
        private int tornInAll = 0;

        void add(int machine, int torn) {
            ofMachine[machine]++;
            tornOfMachine[machine] += torn;
            all++;
            tornInAll += torn;
        }

        // With at most 60 records twenty times all ways stay far below a long's end.
        boolean isBeyondChance(int machine) {
            int own = ofMachine[machine];
            int ownTorn = tornOfMachine[machine];
            long ways = 0;
            for (int torn = ownTorn; torn <= own; torn++) {
                ways += waysToChoose(torn, tornInAll) * waysToChoose(own - torn, all - tornInAll);
            }
            return ownTorn > 0 && 20 * ways <= waysToChoose(own, all);
        }

        private static long waysToChoose(int some, int from) {
            if (some > from) {
                return 0;
            }
            long ways = 1;
            for (int i = 0; i < some; i++) {
                ways = ways * (from - i) / (i + 1);
            }
            return ways;
        }
    }
}
