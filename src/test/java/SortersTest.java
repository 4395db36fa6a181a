/** Promises 30 to 34. */
public final class SortersTest {
    private static final Due due = new Due();

    public static void main(String[] args) {
        sorted();
        sorter();
        beyondChanceOfMany();
        money();
        counted();
        burst();
        wrongBursts();
        due.end();
    }

    private static void sorted() {
        LostParcels x = new LostParcels();
        due.is(30, "sorted(-1, 0)", x.sorted(-1, 0), Due.BEYOND);
        due.is(30, "sorted(6, 0)", x.sorted(6, 0), Due.BEYOND);
        due.is(30, "sorted(0, -1)", x.sorted(0, -1), Due.BEYOND);
        due.is(30, "sorted(0, 2)", x.sorted(0, 2), Due.BEYOND);
        for (int i = 1; i <= 60; i++) {
            due.is(30, "record " + i, x.sorted(i % 6, i % 2), i);
        }
        due.is(30, "a record too many", x.sorted(0, 0), Due.FULL);
        due.is(30, "a wrong one too many", x.sorted(6, 0), Due.BEYOND);
        due.is(30, "count(8)", x.count(8), 60);
    }

    private static void records(LostParcels x, int machine, int whole, int torn) {
        for (int i = 0; i < whole + torn; i++) {
            x.sorted(machine, i < torn ? 1 : 0);
        }
    }

    private static void sorter() {
        LostParcels x = new LostParcels();
        due.is(31, "no records", x.sorter(0, 2), 0);
        due.is(31, "sorter(-1, 0)", x.sorter(-1, 0), Due.BEYOND);
        due.is(31, "sorter(6, 0)", x.sorter(6, 0), Due.BEYOND);
        due.is(31, "sorter(0, -1)", x.sorter(0, -1), Due.BEYOND);
        due.is(31, "sorter(0, 3)", x.sorter(0, 3), Due.BEYOND);
        records(x, 5, 0, 1);
        records(x, 2, 18, 0);
        due.is(31, "records of 2", x.sorter(2, 0), 18);
        due.is(31, "torn of 2", x.sorter(2, 1), 0);
        due.is(31, "records of 5", x.sorter(5, 0), 1);
        due.is(31, "torn of 5", x.sorter(5, 1), 1);
        due.is(31, "1 of 19", x.sorter(5, 2), 0);
        records(x, 2, 1, 0);
        due.is(31, "1 of 20", x.sorter(5, 2), 1);
        due.is(31, "none torn", x.sorter(2, 2), 0);
        due.is(31, "no records of its own", x.sorter(0, 2), 0);
        due.is(31, "records of 0", x.sorter(0, 0), 0);
    }

    private static void beyondChanceOfMany() {
        LostParcels x = new LostParcels();
        records(x, 0, 15, 15);
        records(x, 1, 15, 15);
        due.is(31, "as many", x.sorter(0, 2), 0);
        LostParcels y = new LostParcels();
        records(y, 0, 12, 18);
        records(y, 1, 18, 12);
        due.is(31, "18 of 30, others 12", y.sorter(0, 2), 0);
        LostParcels z = new LostParcels();
        records(z, 0, 11, 19);
        records(z, 1, 19, 11);
        due.is(31, "19 of 30, others 11", z.sorter(0, 2), 1);
        due.is(31, "the other", z.sorter(1, 2), 0);
        LostParcels few = new LostParcels();
        records(few, 0, 3, 2);
        records(few, 1, 15, 0);
        due.is(31, "2 of 5, of 20: 816 of 15504 ways", few.sorter(0, 2), 0);
        records(few, 1, 1, 0);
        due.is(31, "2 of 5, of 21: 969 of 20349 ways", few.sorter(0, 2), 1);
        LostParcels none = new LostParcels();
        records(none, 0, 30, 0);
        records(none, 1, 30, 0);
        due.is(31, "nothing torn", none.sorter(0, 2), 0);
    }

    private static void money() {
        LostParcels x = new LostParcels();
        x.thing(3, 0, 10, 0, 1);
        x.thing(0, 0, 10, 0, 1);
        x.thing(3, 0, 10, 0, 1);
        x.seeker(0);
        due.is(32, "money(3, 0, 0)", x.money(3, 0, 0), Due.BEYOND);
        due.is(32, "money(-1, 0, 0)", x.money(-1, 0, 0), Due.BEYOND);
        due.is(32, "money(0, 4, 0)", x.money(0, 4, 0), Due.BEYOND);
        due.is(32, "money(0, -1, 0)", x.money(0, -1, 0), Due.BEYOND);
        due.is(32, "money(0, 0, -1)", x.money(0, 0, -1), Due.BEYOND);
        due.is(32, "money(0, 0, 100001)", x.money(0, 0, 100001), Due.BEYOND);
        due.is(32, "no purse, wrong hand", x.money(1, 4, 0), Due.BEYOND);
        due.is(32, "no purse", x.money(1, 0, 0), Due.KIND);
        due.is(32, "money(0, 3, 0)", x.money(0, 3, 0), 1);
        due.is(32, "the same hand", x.money(0, 3, 100000), 1);
        due.is(32, "another hand", x.money(0, 0, 0), 2);
        due.is(32, "another purse", x.money(2, 0, 0), 1);
        due.is(32, "a third hand", x.money(0, 1, 0), 3);
        due.is(32, "the fourth", x.money(0, 2, 5), 4);
        x.answer(0, 0, 1);
        due.is(32, "it is given", x.money(0, 0, 7), Due.STATE);
        x.answer(0, 1, 1);
        due.is(32, "no purse, and given", x.money(1, 0, 7), Due.KIND);
        due.is(32, "nothing was counted by that", x.counted(0), 0);
        x.back(0);
        due.is(32, "it is back", x.money(0, 2, 7), 4);
    }

    private static void counted() {
        LostParcels x = new LostParcels();
        x.thing(3, 0, 10, 0, 1);
        x.thing(1, 0, 10, 0, 1);
        due.is(33, "counted(2)", x.counted(2), Due.BEYOND);
        due.is(33, "counted(-1)", x.counted(-1), Due.BEYOND);
        due.is(33, "no purse", x.counted(1), Due.KIND);
        due.is(33, "no hand", x.counted(0), Due.NONE);
        x.money(0, 1, 50);
        due.is(33, "one hand", x.counted(0), Due.NONE);
        x.money(0, 1, 50);
        due.is(33, "one hand twice", x.counted(0), Due.NONE);
        x.money(0, 3, 50);
        due.is(33, "two hands", x.counted(0), 50);
        x.money(0, 0, 7);
        due.is(33, "two and one", x.counted(0), 50);
        x.money(0, 2, 8);
        due.is(33, "two, one and one", x.counted(0), 50);
        x.money(0, 2, 7);
        due.is(33, "two and two", x.counted(0), Due.NONE);
        x.money(0, 1, 7);
        due.is(33, "three and one", x.counted(0), 7);
        x.money(0, 3, 7);
        due.is(33, "four", x.counted(0), 7);
        x.money(0, 0, 0);
        x.money(0, 2, 0);
        due.is(33, "two of nothing, two of 7", x.counted(0), Due.NONE);
        x.money(0, 1, 0);
        due.is(33, "nothing in it", x.counted(0), 0);
        x.seeker(0);
        x.answer(0, 0, 1);
        due.is(33, "it holds when given", x.counted(0), 0);
    }

    private static LostParcels depot(int... weights) {
        LostParcels x = new LostParcels();
        for (int i = 0; i < weights.length; i++) {
            x.thing(0, 0, weights[i], 0, i + 1);
        }
        return x;
    }

    private static void burst() {
        LostParcels x = depot(10, 20, 30, 30, 25, 5);
        due.is(34, "just so", x.burst(63, 120, 0), 63);
        due.is(34, "the fewest", x.burst(63, 30, 0), 4);
        due.is(34, "of some only", x.burst(1 | 2 | 8, 30, 0), 8);
        due.is(34, "two by less bits", x.burst(1 | 2 | 16 | 32, 30, 0), 3);
        due.is(34, "the nearest is above the fewest", x.burst(3, 29, 10), 3);
        due.is(34, "below as near as above: the less", x.burst(1 | 2, 15, 5), 1);
        due.is(34, "more is too little", x.burst(1 | 2, 15, 4), Due.NONE);
        due.is(34, "just more above", x.burst(2, 19, 1), 2);
        due.is(34, "just more below", x.burst(2, 21, 1), 2);
        due.is(34, "too heavy", x.burst(2, 19, 0), Due.NONE);
        due.is(34, "no things, though near", x.burst(0, 1, 1000), Due.NONE);
        due.is(34, "some at least", x.burst(63, 1, 1000), 32);
        due.is(34, "the fewest, not the least bits", x.burst(1 | 2 | 4, 30, 0), 4);
        due.is(34, "set with gaps", x.burst(2 | 8 | 32, 54, 5), 2 | 8 | 32);
        LostParcels y = depot(5000, 5000, 5000, 5000, 5000, 5000, 5000, 5000, 5000, 5000, 5000, 5000, 5000, 4999, 1);
        due.is(34, "fourteen", y.burst(16383, 69999, 0), 16383);
        due.is(34, "fourteen without the first", y.burst(32766, 65000, 0), 32766);
        due.is(34, "fifteen", y.burst(32767, 5000, 0), Due.STATE);
        due.is(34, "as much as can be told", y.burst(16383, 100000, 1000), Due.NONE);
    }

    private static void wrongBursts() {
        LostParcels x = depot(10, 20);
        due.is(34, "a bit of no thing", x.burst(4, 1, 0), Due.BEYOND);
        due.is(34, "the highest bit", x.burst(Integer.MIN_VALUE, 1, 0), Due.BEYOND);
        due.is(34, "weight 0", x.burst(1, 0, 0), Due.BEYOND);
        due.is(34, "weight above all", x.burst(1, 100001, 0), Due.BEYOND);
        due.is(34, "more below 0", x.burst(1, 1, -1), Due.BEYOND);
        due.is(34, "more above all", x.burst(1, 1, 1001), Due.BEYOND);
        due.is(34, "no thing, no weight", x.burst(0, 0, 0), Due.BEYOND);
        x.seeker(0);
        x.answer(0, 0, 1);
        due.is(34, "one is given", x.burst(3, 20, 0), Due.STATE);
        due.is(34, "the other is kept", x.burst(2, 20, 0), 2);
        due.is(34, "of no things at all", new LostParcels().burst(0, 1, 0), Due.NONE);
        due.is(34, "a bit of no things at all", new LostParcels().burst(1, 1, 0), Due.BEYOND);
    }
}
