/** Promises 1 to 8. */
public final class ThingsTest {
    private static final Due due = new Due();

    public static void main(String[] args) {
        newObject();
        thing();
        as();
        trait();
        about();
        day();
        spoil();
        known();
        due.end();
    }

    private static void newObject() {
        LostParcels x = new LostParcels();
        for (int what = 0; what <= 10; what++) {
            due.is(1, "count(" + what + ")", x.count(what), 0);
        }
        for (int k = 1; k <= 5; k++) {
            due.is(1, "found(" + k + ")", x.found(k), 0);
        }
        due.is(1, "about(0, 0)", x.about(0, 0), Due.BEYOND);
        due.is(1, "seen(0, 0)", x.seen(0, 0), Due.BEYOND);
        due.is(1, "post(0, 0)", x.post(0, 0), Due.BEYOND);
        due.is(1, "match(-1)", x.match(-1), 0);
        due.is(1, "sellable()", x.sellable(), 0);
        due.is(1, "check()", x.check(), 0);
        due.is(1, "spoil(3)", x.spoil(3), 3);
        for (int kind = 0; kind < 4; kind++) {
            due.is(1, "law(" + kind + ", 12)", x.law(kind, 12), 12);
        }
        for (int trait = 0; trait < 5; trait++) {
            due.is(1, "points(" + trait + ", 4)", x.points(trait, 4), 4);
        }
        x.day(5);
        x.thing(0, 0, 1, 1, 1);
        due.is(1, "a second object's count(0)", new LostParcels().count(0), 0);
        due.is(1, "a second object's count(7)", new LostParcels().count(7), 0);
    }

    private static void thing() {
        LostParcels x = new LostParcels();
        int[][] wrong = {
            {-1, 0, 1, 0, 1}, {4, 0, 1, 0, 1}, {Integer.MAX_VALUE, 0, 1, 0, 1}, {Integer.MIN_VALUE, 0, 1, 0, 1},
            {0, -1, 1, 0, 1}, {0, 11, 1, 0, 1}, {0, Integer.MIN_VALUE, 1, 0, 1},
            {0, 0, 0, 0, 1}, {0, 0, 5001, 0, 1}, {0, 0, -1, 0, 1},
            {0, 0, 1, -1, 1}, {0, 0, 1, 10001, 1}, {0, 0, 1, 0, 0}, {0, 0, 1, 0, 10000}, {0, 0, 1, 0, -5}};
        x.day(10);
        for (int[] w : wrong) {
            due.is(2, "thing(" + java.util.Arrays.toString(w) + ")", x.thing(w[0], w[1], w[2], w[3], w[4]), Due.BEYOND);
        }
        due.is(2, "count(0)", x.count(0), 0);
        due.is(2, "thing(0, 10, 5000, 10000, 9999)", x.thing(0, 10, 5000, 10000, 9999), 0);
        due.is(2, "thing(3, 0, 1, 0, 1)", x.thing(3, 0, 1, 0, 1), 1);
        due.is(2, "about(1, 6)", x.about(1, 6), 0);
        for (int i = 2; i < 20; i++) {
            due.is(2, "thing " + i, x.thing(i % 4, 9, 1, 0, 1), i);
        }
        due.is(2, "a thing too many", x.thing(0, 0, 1, 0, 1), Due.FULL);
        due.is(2, "a wrong thing too many", x.thing(4, 0, 1, 0, 1), Due.BEYOND);
        due.is(2, "count(0)", x.count(0), 20);
    }

    private static void as() {
        LostParcels x = new LostParcels();
        for (int kind = 0; kind < 4; kind++) {
            x.thing(kind, 0, 100 + kind, 0, 1);
        }
        for (int thing = 0; thing < 4; thing++) {
            for (int kind = 0; kind < 4; kind++) {
                int want = kind == 0 || kind == thing ? 100 + thing : Due.KIND;
                due.is(3, "as(" + thing + ", " + kind + ")", x.as(thing, kind), want);
            }
        }
        due.is(3, "as(4, 0)", x.as(4, 0), Due.BEYOND);
        due.is(3, "as(-1, 0)", x.as(-1, 0), Due.BEYOND);
        due.is(3, "as(0, -1)", x.as(0, -1), Due.BEYOND);
        due.is(3, "as(1, 4)", x.as(1, 4), Due.BEYOND);
    }

    private static void trait() {
        LostParcels x = new LostParcels();
        x.thing(0, 0, 1, 0, 1);
        x.thing(0, 0, 1, 0, 1);
        for (int trait = 0; trait < 5; trait++) {
            due.is(4, "trait first", x.trait(0, trait, 11 + trait), 0);
            due.is(4, "trait again", x.trait(0, trait, trait), 11 + trait);
            due.is(4, "about it", x.about(0, 6 + trait), trait);
            due.is(4, "about another", x.about(1, 6 + trait), 0);
        }
        due.is(4, "trait(0, 5, 0)", x.trait(0, 5, 0), Due.BEYOND);
        due.is(4, "trait(0, -1, 0)", x.trait(0, -1, 0), Due.BEYOND);
        due.is(4, "trait(0, 0, 16)", x.trait(0, 0, 16), Due.BEYOND);
        due.is(4, "trait(0, 0, -1)", x.trait(0, 0, -1), Due.BEYOND);
        due.is(4, "trait(2, 0, 0)", x.trait(2, 0, 0), Due.BEYOND);
        due.is(4, "trait(-1, 0, 0)", x.trait(-1, 0, 0), Due.BEYOND);
        due.is(4, "trait(0, 0, 15)", x.trait(0, 0, 15), 0);
        due.is(4, "trait(0, 0, 0)", x.trait(0, 0, 0), 15);
    }

    private static void about() {
        LostParcels x = new LostParcels();
        x.day(7);
        x.thing(3, 5, 44, 55, 66);
        x.trait(0, 4, 9);
        int[] want = {3, 5, 44, 55, 0, -1, 0, 0, 0, 0, 9};
        for (int what = 0; what < want.length; what++) {
            due.is(5, "about(0, " + what + ")", x.about(0, what), want[what]);
        }
        due.is(5, "about(0, 11)", x.about(0, 11), Due.BEYOND);
        due.is(5, "about(0, -1)", x.about(0, -1), Due.BEYOND);
        due.is(5, "about(1, 0)", x.about(1, 0), Due.BEYOND);
        due.is(5, "about(-1, 0)", x.about(-1, 0), Due.BEYOND);
        x.seeker(0);
        x.seeker(0);
        x.answer(1, 0, 66);
        due.is(5, "given: about(0, 4)", x.about(0, 4), 1);
        due.is(5, "given: about(0, 5)", x.about(0, 5), 1);
        x.back(0);
        due.is(5, "back: about(0, 4)", x.about(0, 4), 0);
        due.is(5, "back: about(0, 5)", x.about(0, 5), -1);
        x.law(3, 0);
        x.sell(1, 10);
        due.is(5, "sold: about(0, 4)", x.about(0, 4), 2);
        due.is(5, "sold: about(0, 5)", x.about(0, 5), -1);
    }

    private static void day() {
        LostParcels x = new LostParcels();
        due.is(6, "day(-1)", x.day(-1), Due.BEYOND);
        due.is(6, "day(10000)", x.day(10000), Due.BEYOND);
        due.is(6, "day(0)", x.day(0), 0);
        x.thing(2, 0, 1, 0, 1);
        x.thing(0, 0, 1, 0, 1);
        x.thing(1, 0, 1, 0, 1);
        x.thing(3, 0, 1, 0, 1);
        due.is(6, "day(2)", x.day(2), 0);
        x.thing(2, 2, 1, 0, 1);
        x.thing(2, 1, 1, 0, 7);
        x.seeker(0);
        due.is(6, "answer(0, 5, 7)", x.answer(0, 5, 7), 1);
        due.is(6, "day(1)", x.day(1), Due.BEYOND);
        due.is(6, "count(7)", x.count(7), 2);
        due.is(6, "day(5)", x.day(5), 2);
        due.is(6, "what is given isn't spoilt", x.about(5, 4), 1);
        due.is(6, "back(5)", x.back(5), 0);
        due.is(6, "old food that came back is kept until it is looked at", x.about(5, 4), 0);
        due.is(6, "day(5) again", x.day(5), 1);
        due.is(6, "day(5) once more", x.day(5), 0);
        due.is(6, "day(9999)", x.day(9999), 0);
        due.is(6, "day(9998)", x.day(9998), Due.BEYOND);
        due.is(6, "day(10000)", x.day(10000), Due.BEYOND);
        due.is(6, "day(9999)", x.day(9999), 0);
        due.is(6, "others do not spoil", x.count(4), 3);
    }

    private static void spoil() {
        LostParcels x = new LostParcels();
        due.is(7, "spoil(-1)", x.spoil(-1), Due.BEYOND);
        due.is(7, "spoil(31)", x.spoil(31), Due.BEYOND);
        due.is(7, "spoil(30)", x.spoil(30), 3);
        x.thing(2, 0, 1, 0, 1);
        due.is(7, "day(29)", x.day(29), 0);
        due.is(7, "spoil(29)", x.spoil(29), 30);
        due.is(7, "not looked at yet", x.about(0, 4), 0);
        x.thing(2, 0, 1, 0, 1);
        due.is(7, "the new one is looked at", x.about(1, 4), 3);
        due.is(7, "the old one isn't by that", x.about(0, 4), 0);
        due.is(7, "day(29)", x.day(29), 1);
        due.is(7, "spoil(0)", x.spoil(0), 29);
        x.thing(2, 29, 1, 0, 1);
        due.is(7, "spoilt on the day itself", x.about(2, 4), 3);
        x.thing(0, 0, 1, 0, 1);
        due.is(7, "another kind", x.about(3, 4), 0);
        due.is(7, "spoil(5)", x.spoil(5), 0);
        due.is(7, "what is spoilt stays so", x.about(2, 4), 3);
    }

    private static void known() {
        LostParcels x = new LostParcels();
        x.day(4);
        x.thing(0, 2, 1, 0, 5);
        x.seeker(0);
        due.is(8, "found, but not told", x.known(0, 3), -1);
        due.is(8, "told", x.known(0, 4), 0);
        due.is(8, "a day to come", x.known(0, 9999), 0);
        x.day(6);
        x.answer(0, 0, 5);
        x.back(0);
        x.answer(0, 0, 5);
        due.is(8, "behind all of its day", x.known(0, 6), 1);
        due.is(8, "the day ahead", x.known(0, 5), 0);
        x.day(8);
        x.back(0);
        x.law(0, 0);
        x.day(9);
        x.sell(1, 5);
        x.day(20);
        int[] want = {-1, -1, -1, -1, 0, 0, 1, 1, 0, 2, 2};
        for (int day = 0; day < want.length; day++) {
            due.is(8, "known(0, " + day + ")", x.known(0, day), want[day]);
        }
        x.thing(2, 0, 1, 0, 5);
        due.is(8, "spoilt when told", x.known(1, 20), 3);
        due.is(8, "and not ahead of that", x.known(1, 19), -1);
        x.thing(2, 19, 1, 0, 5);
        x.day(30);
        due.is(8, "seen as spoilt on 30", x.known(2, 30), 3);
        due.is(8, "old, but not looked at", x.known(2, 29), 0);
        due.is(8, "known(0, -1)", x.known(0, -1), Due.BEYOND);
        due.is(8, "known(0, 10000)", x.known(0, 10000), Due.BEYOND);
        due.is(8, "known(3, 0)", x.known(3, 0), Due.BEYOND);
        due.is(8, "known(-1, 0)", x.known(-1, 0), Due.BEYOND);
    }
}
