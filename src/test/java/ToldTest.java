/** Promises 35 to 38. */
public final class ToldTest {
    private static final Due due = new Due();

    public static void main(String[] args) {
        tell();
        check();
        count();
        found();
        due.end();
    }

    private static void tell() {
        LostParcels x = new LostParcels();
        int[] any = {0, -1, Integer.MAX_VALUE, Integer.MIN_VALUE};
        for (int i = 1; i <= 20; i++) {
            due.is(35, "number " + i, x.tell(any[i % 4]), i);
        }
        due.is(35, "one too many", x.tell(0), Due.FULL);
        due.is(35, "count(9)", x.count(9), 20);
        due.is(35, "check()", x.check(), 1);
        due.is(35, "none wait then", x.count(9), 0);
        due.is(35, "tell(3)", x.tell(3), 1);
    }

    private static int told(LostParcels x, int... numbers) {
        for (int number : numbers) {
            x.tell(number);
        }
        return x.check();
    }

    private static void check() {
        LostParcels x = new LostParcels();
        due.is(36, "nothing of nothing", told(x), 0);
        due.is(36, "no seeker", told(x, -1), 1);
        for (int i = 0; i < 2; i++) {
            x.thing(0, 0, 10, 0, 1);
        }
        for (int i = 0; i < 3; i++) {
            x.seeker(0);
        }
        due.is(36, "right", told(x, 0, 1, -1), 0);
        due.is(36, "none wait then", x.count(9), 0);
        due.is(36, "the first is wrong", told(x, 1, 1, -1), 1);
        due.is(36, "none wait then, too", x.count(9), 0);
        due.is(36, "the second is wrong", told(x, 0, 0, -1), 2);
        due.is(36, "the third is wrong", told(x, 0, 1, 2), 3);
        due.is(36, "none is told as -1 alone", told(x, 0, 1, Due.NONE), 3);
        due.is(36, "there is no fourth", told(x, 0, 1, -1, -1), 4);
        due.is(36, "the first that isn't", told(x, 0, 2, -1, -1), 2);
        due.is(36, "the first two are right", told(x, 0, 1), 0);
        due.is(36, "no number is wrong", told(x), 0);
        due.is(36, "no findings by that", x.found(2), 0);
    }

    private static void count() {
        LostParcels x = new LostParcels();
        x.day(3);
        x.law(0, 0);
        for (int i = 0; i < 6; i++) {
            x.thing(0, 0, 10, 10, i + 1);
        }
        x.thing(2, 0, 10, 10, 1);
        x.seeker(0);
        x.seeker(0);
        x.answer(0, 0, 1);
        x.answer(1, 1, 2);
        x.sell(4, 30);
        x.owed(0, 2, 3);
        x.address(1, 1);
        x.address(2, 2);
        x.address(3, 3);
        x.sorted(0, 0);
        x.sorted(0, 0);
        x.tell(5);
        int[] want = {7, 3, 2, 1, 1, 2, 3, 3, 2, 1, 27};
        for (int what = 0; what < want.length; what++) {
            due.is(37, "count(" + what + ")", x.count(what), want[what]);
        }
        due.is(37, "count(-1)", x.count(-1), Due.BEYOND);
        due.is(37, "count(11)", x.count(11), Due.BEYOND);
        due.is(37, "count(MIN)", x.count(Integer.MIN_VALUE), Due.BEYOND);
    }

    private static void found() {
        LostParcels x = new LostParcels();
        due.is(38, "found(0)", x.found(0), Due.BEYOND);
        due.is(38, "found(6)", x.found(6), Due.BEYOND);
        due.is(38, "found(-1)", x.found(-1), Due.BEYOND);
        due.is(38, "found(MAX)", x.found(Integer.MAX_VALUE), Due.BEYOND);
        due.is(38, "found(1) counts them, too", x.found(1), 4);
        x.thing(0, 0, 10, 10, 1);
        x.seeker(0);
        x.seeker(1);
        due.is(38, "none", x.match(1), Due.NONE);
        due.is(38, "state", x.back(0), Due.STATE);
        due.is(38, "state", x.sold(0), Due.STATE);
        due.is(38, "kind", x.counted(0), Due.KIND);
        due.is(38, "kind", x.as(0, 3), Due.KIND);
        due.is(38, "kind", x.as(0, 2), Due.KIND);
        for (int i = 0; i < 24; i++) {
            x.tell(0);
        }
        int[] want = {4, 1, 2, 4, 3};
        for (int k = 1; k <= 5; k++) {
            due.is(38, "found(" + k + ")", x.found(k), want[k - 1]);
        }
    }
}
