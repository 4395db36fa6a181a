/** Promises 24 to 29. */
public final class SalesTest {
    private static final Due due = new Due();

    public static void main(String[] args) {
        law();
        sellable();
        sell();
        saleOfNoWorth();
        sold();
        owed();
        owedToTheBarred();
        lots();
        lotsOfEqualNumber();
        wrongLots();
        due.end();
    }

    /** Things of kind 0 that may be sold at once, with these worths; the secret of thing i is i + 1. */
    private static LostParcels depot(int... worths) {
        LostParcels x = new LostParcels();
        x.law(0, 0);
        for (int i = 0; i < worths.length; i++) {
            x.thing(0, 0, 10, worths[i], i + 1);
        }
        return x;
    }

    private static void law() {
        LostParcels x = new LostParcels();
        for (int kind = 0; kind < 4; kind++) {
            due.is(24, "months at first", x.law(kind, 60), 12);
            due.is(24, "months", x.law(kind, 0), 60);
            due.is(24, "months", x.law(kind, kind), 0);
        }
        due.is(24, "law(-1, 0)", x.law(-1, 0), Due.BEYOND);
        due.is(24, "law(4, 0)", x.law(4, 0), Due.BEYOND);
        due.is(24, "law(0, -1)", x.law(0, -1), Due.BEYOND);
        due.is(24, "law(0, 61)", x.law(0, 61), Due.BEYOND);
        due.is(24, "law(3, 3)", x.law(3, 3), 3);
    }

    private static void sellable() {
        LostParcels x = new LostParcels();
        due.is(25, "no things", x.sellable(), 0);
        x.spoil(30);
        x.day(100);
        for (int kind = 0; kind < 4; kind++) {
            x.thing(kind, 71, 10, 0, 5);
            x.law(kind, 1);
        }
        due.is(25, "a day too early", x.sellable(), 0);
        x.spoil(0);
        x.law(2, 0);
        due.is(25, "food by its own months", x.sellable(), 4);
        x.law(2, 1);
        due.is(25, "food spoils", x.day(101), 1);
        due.is(25, "on the day; no letters, nothing spoilt", x.sellable(), 1 | 8);
        x.seeker(0);
        x.answer(0, 3, 5);
        due.is(25, "what is given isn't sold", x.sellable(), 1);
        x.back(3);
        x.law(0, 2);
        due.is(25, "months of its own kind", x.sellable(), 8);
        x.law(1, 0);
        due.is(25, "a letter never", x.sellable(), 8);
        x.sell(8, 1);
        due.is(25, "what is sold isn't sold", x.sellable(), 0);
    }

    private static void sell() {
        LostParcels x = depot(10, 20, 0, 70, 5);
        due.is(26, "no bit", x.sell(0, 5), Due.BEYOND);
        due.is(26, "a bit of no thing", x.sell(32, 5), Due.BEYOND);
        due.is(26, "the highest bit", x.sell(Integer.MIN_VALUE, 5), Due.BEYOND);
        due.is(26, "all bits", x.sell(-1, 5), Due.BEYOND);
        due.is(26, "sum below 0", x.sell(1, -1), Due.BEYOND);
        due.is(26, "sum above all", x.sell(1, 100001), Due.BEYOND);
        due.is(26, "sell(15, 99)", x.sell(15, 99), 2);
        int[] shares = {10, 20, 0, 69};
        for (int i = 0; i < shares.length; i++) {
            due.is(26, "sold(" + i + ")", x.sold(i), shares[i]);
        }
        due.is(26, "one isn't kept", x.sell(1 | 16, 5), Due.STATE);
        due.is(26, "the other is kept still", x.about(4, 4), 0);
        due.is(26, "sell(16, 100000)", x.sell(16, 100000), 0);
        due.is(26, "sold(4)", x.sold(4), 100000);
        due.is(26, "count(3)", x.count(3), 5);
        LostParcels y = depot(1, 1, 10000);
        due.is(26, "a dear one", y.sell(7, 100000), 2);
        due.is(26, "sold(0)", y.sold(0), 10);
        due.is(26, "sold(1)", y.sold(1), 10);
        due.is(26, "sold(2)", y.sold(2), 99980);
        due.is(26, "no bits of nothing", new LostParcels().sell(1, 0), Due.BEYOND);
    }

    private static void saleOfNoWorth() {
        LostParcels x = depot(0, 0, 0, 0);
        due.is(26, "17 by 4", x.sell(15, 17), 1);
        int[] shares = {5, 4, 4, 4};
        for (int i = 0; i < shares.length; i++) {
            due.is(26, "sold(" + i + ")", x.sold(i), shares[i]);
        }
        LostParcels y = depot(0, 5, 0, 0);
        due.is(26, "11 by 3", y.sell(13, 11), 2);
        due.is(26, "sold(0)", y.sold(0), 4);
        due.is(26, "sold(2)", y.sold(2), 4);
        due.is(26, "sold(3)", y.sold(3), 3);
        due.is(26, "sum 0", y.sell(2, 0), 0);
        due.is(26, "sold(1)", y.sold(1), 0);
    }

    private static void sold() {
        LostParcels x = depot(10, 10);
        due.is(27, "it is kept", x.sold(0), Due.STATE);
        due.is(27, "sold(2)", x.sold(2), Due.BEYOND);
        due.is(27, "sold(-1)", x.sold(-1), Due.BEYOND);
        x.sell(1, 50);
        due.is(27, "its share", x.sold(0), 50);
        due.is(27, "another", x.sold(1), Due.STATE);
        x.seeker(0);
        x.owed(0, 0, 1);
        due.is(27, "the share stays when it is paid", x.sold(0), 50);
        x.answer(0, 1, 2);
        due.is(27, "it is given", x.sold(1), Due.STATE);
    }

    private static void owed() {
        LostParcels x = depot(10, 10, 10, 10);
        x.day(100);
        x.seeker(9999);
        x.sell(7, 59);
        due.is(28, "owed(1, 0, 1)", x.owed(1, 0, 1), Due.BEYOND);
        due.is(28, "owed(-1, 0, 1)", x.owed(-1, 0, 1), Due.BEYOND);
        due.is(28, "owed(0, 4, 1)", x.owed(0, 4, 1), Due.BEYOND);
        due.is(28, "owed(0, -1, 1)", x.owed(0, -1, 1), Due.BEYOND);
        due.is(28, "owed(0, 0, 0)", x.owed(0, 0, 0), Due.BEYOND);
        due.is(28, "owed(0, 0, 10000)", x.owed(0, 0, 10000), Due.BEYOND);
        due.is(28, "it isn't sold", x.owed(0, 3, 4), Due.STATE);
        due.is(28, "it isn't sold, nor the secret", x.owed(0, 3, 5), Due.STATE);
        due.is(28, "no false by that", x.seen(0, 1), 0);
        due.is(28, "20 less 2, of no likeness", x.owed(0, 0, 1), 18);
        due.is(28, "paid once", x.owed(0, 0, 1), Due.STATE);
        due.is(28, "paid, and not the secret", x.owed(0, 0, 2), Due.STATE);
        x.day(1195);
        due.is(28, "the last day, 20 less 2", x.owed(0, 1, 2), 18);
        x.day(1196);
        due.is(28, "too late", x.owed(0, 2, 3), Due.STATE);
        due.is(28, "count(10)", x.count(10), 36);
        due.is(28, "found(3)", x.found(3), 5);
        x.sell(8, 19);
        due.is(28, "19 less a tenth that is cut", x.owed(0, 3, 4), 18);
        due.is(28, "count(10)", x.count(10), 54);
        LostParcels y = depot(10);
        y.seeker(0);
        y.sell(1, 0);
        due.is(28, "a share of 0", y.owed(0, 0, 1), 0);
        due.is(28, "is paid, too", y.owed(0, 0, 1), Due.STATE);
    }

    private static void owedToTheBarred() {
        LostParcels x = depot(10, 10);
        x.seeker(0);
        x.seeker(0);
        x.sell(1, 9);
        due.is(28, "a false one by answer()", x.answer(0, 1, 1), 0);
        due.is(28, "a false one", x.owed(0, 0, 2), Due.NONE);
        due.is(28, "false", x.seen(0, 1), 2);
        due.is(28, "a third", x.owed(0, 0, 3), Due.NONE);
        due.is(28, "barred", x.seen(0, 2), 1);
        due.is(28, "the barred", x.owed(0, 0, 1), Due.STATE);
        due.is(28, "nothing for the barred by answer()", x.answer(0, 1, 2), Due.STATE);
        due.is(28, "another one, 9 less 0", x.owed(1, 0, 1), 9);
        due.is(28, "found(2)", x.found(2), 2);
    }

    private static void dueLots(String name, LostParcels x, int set, int low, int high, int... lots) {
        String call = name + ": lots(" + set + ", " + low + ", " + high + ", ";
        due.is(29, call + "0)", x.lots(set, low, high, 0), lots.length);
        for (int i = 0; i < lots.length; i++) {
            due.is(29, call + (1 + i) + ")", x.lots(set, low, high, 1 + i), lots[i]);
        }
        due.is(29, call + (1 + lots.length) + ")", x.lots(set, low, high, 1 + lots.length), Due.NONE);
    }

    private static void lots() {
        LostParcels x = depot(5, 5, 5, 10, 0);
        dueLots("one lot", x, 15, 25, 25, 15);
        dueLots("the ends", x, 15, 10, 15, 3, 12);
        dueLots("pairs by the least bits", x, 7, 5, 10, 1, 6);
        dueLots("each alone", x, 7, 5, 5, 1, 2, 4);
        dueLots("a thing of no worth alone", x, 16, 0, 0, 16);
        dueLots("a thing of no worth goes with another", x, 17, 1, 5, 17);
        dueLots("some of them", x, 10, 0, 100000, 10);
        due.is(29, "can't be parted", x.lots(7, 6, 9, 0), Due.NONE);
        due.is(29, "can't be parted, lot 0", x.lots(7, 6, 9, 1), Due.NONE);
        due.is(29, "too dear", x.lots(8, 0, 9, 0), Due.NONE);
        due.is(29, "too cheap", x.lots(15, 26, 30, 0), Due.NONE);
        due.is(29, "far lot", x.lots(15, 0, 100, Integer.MAX_VALUE), Due.NONE);
        due.is(29, "nothing is sold by that", x.count(3), 0);
    }

    private static void lotsOfEqualNumber() {
        LostParcels x = depot(3, 3, 3, 3, 3, 3, 3, 3, 3, 3, 9);
        dueLots("ten by pairs", x, 1023, 6, 6, 3, 12, 48, 192, 768);
        dueLots("ten by at most four", x, 1023, 6, 12, 3, 60, 960);
        dueLots("ten by one each", x, 1023, 0, 5, 1, 2, 4, 8, 16, 32, 64, 128, 256, 512);
        dueLots("set with gaps", x, 1 | 4 | 64 | 1024, 3, 9, 1 | 4 | 64, 1024);
        dueLots("the first alone is least", x, 1 | 4 | 64 | 1024, 3, 15, 1, 4 | 64 | 1024);
    }

    private static void wrongLots() {
        LostParcels x = depot(1, 1, 1, 1, 1, 1, 1, 1, 1, 1, 1);
        due.is(29, "a bit of no thing", x.lots(2048, 0, 1, 0), Due.BEYOND);
        due.is(29, "the highest bit", x.lots(Integer.MIN_VALUE, 0, 1, 0), Due.BEYOND);
        due.is(29, "low below 0", x.lots(1, -1, 1, 0), Due.BEYOND);
        due.is(29, "high above all", x.lots(1, 0, 100001, 0), Due.BEYOND);
        due.is(29, "low above high", x.lots(1, 2, 1, 0), Due.BEYOND);
        due.is(29, "what below 0", x.lots(1, 0, 1, -1), Due.BEYOND);
        due.is(29, "no bit", x.lots(0, 0, 1, 0), Due.STATE);
        due.is(29, "no bit, wrong what", x.lots(0, 0, 1, -1), Due.BEYOND);
        due.is(29, "eleven", x.lots(2047, 0, 100000, 0), Due.STATE);
        due.is(29, "ten", x.lots(2046, 0, 100000, 0), 1);
        x.sell(1, 0);
        due.is(29, "one is sold", x.lots(3, 0, 1, 0), Due.STATE);
        x.law(0, 1);
        due.is(29, "too early", x.lots(2, 0, 1, 0), Due.STATE);
    }
}
