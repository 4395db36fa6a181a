/** Promises 9 to 18. */
public final class SeekersTest {
    private static final Due due = new Due();

    public static void main(String[] args) {
        seeker();
        word();
        span();
        points();
        likeness();
        chance();
        match();
        seen();
        answer();
        back();
        due.end();
    }

    private static void seeker() {
        LostParcels x = new LostParcels();
        due.is(9, "seeker(-1)", x.seeker(-1), Due.BEYOND);
        due.is(9, "seeker(10000)", x.seeker(10000), Due.BEYOND);
        due.is(9, "seeker(9999)", x.seeker(9999), 0);
        for (int i = 1; i < 8; i++) {
            due.is(9, "seeker(" + i + ")", x.seeker(i), i);
        }
        due.is(9, "a seeker too many", x.seeker(0), Due.FULL);
        due.is(9, "a wrong seeker too many", x.seeker(-1), Due.BEYOND);
        due.is(9, "count(5)", x.count(5), 8);
    }

    private static void word() {
        LostParcels x = new LostParcels();
        x.seeker(0);
        x.seeker(0);
        for (int trait = 0; trait < 5; trait++) {
            due.is(10, "no word at first", x.word(0, trait, 15), -1);
            due.is(10, "what they told", x.word(0, trait, 0), 15);
            due.is(10, "what they told", x.word(0, trait, -1), 0);
            due.is(10, "no word again", x.word(0, trait, 3), -1);
            due.is(10, "another's", x.word(1, trait, -1), -1);
        }
        due.is(10, "word(2, 0, 0)", x.word(2, 0, 0), Due.BEYOND);
        due.is(10, "word(-1, 0, 0)", x.word(-1, 0, 0), Due.BEYOND);
        due.is(10, "word(0, 5, 0)", x.word(0, 5, 0), Due.BEYOND);
        due.is(10, "word(0, -1, 0)", x.word(0, -1, 0), Due.BEYOND);
        due.is(10, "word(0, 0, 16)", x.word(0, 0, 16), Due.BEYOND);
        due.is(10, "word(0, 0, -2)", x.word(0, 0, -2), Due.BEYOND);
        due.is(10, "word(0, 0, -1)", x.word(0, 0, -1), 3);
    }

    private static void span() {
        LostParcels x = new LostParcels();
        x.seeker(0);
        x.thing(0, 0, 1, 0, 1);
        x.thing(0, 0, 5000, 0, 1);
        x.points(0, 20);
        x.trait(0, 0, 1);
        x.trait(1, 0, 1);
        x.word(0, 0, 1);
        due.is(11, "the span at first, low end", x.likeness(0, 0), 23);
        due.is(11, "the span at first, high end", x.likeness(0, 1), 23);
        due.is(11, "span(0, 2, 4999)", x.span(0, 2, 4999), 1);
        due.is(11, "below it", x.likeness(0, 0), 17);
        due.is(11, "above it", x.likeness(0, 1), 17);
        due.is(11, "span(0, 0, 5)", x.span(0, 0, 5), Due.BEYOND);
        due.is(11, "span(0, 1, 5001)", x.span(0, 1, 5001), Due.BEYOND);
        due.is(11, "span(0, 5, 4)", x.span(0, 5, 4), Due.BEYOND);
        due.is(11, "span(1, 1, 1)", x.span(1, 1, 1), Due.BEYOND);
        due.is(11, "span(-1, 1, 1)", x.span(-1, 1, 1), Due.BEYOND);
        due.is(11, "span(0, 5001, 5001)", x.span(0, 5001, 5001), Due.BEYOND);
        due.is(11, "wrong spans change nothing", x.likeness(0, 0), 17);
        due.is(11, "span(0, 1, 1)", x.span(0, 1, 1), 1);
        due.is(11, "in it", x.likeness(0, 0), 23);
        due.is(11, "span(0, 5000, 5000)", x.span(0, 5000, 5000), 1);
        due.is(11, "in it", x.likeness(0, 1), 23);
        due.is(11, "not in it", x.likeness(0, 0), 17);
    }

    private static void points() {
        LostParcels x = new LostParcels();
        for (int trait = 0; trait < 5; trait++) {
            due.is(12, "points at first", x.points(trait, 20), 4);
            due.is(12, "points", x.points(trait, 0), 20);
            due.is(12, "points", x.points(trait, 7), 0);
        }
        due.is(12, "points(-1, 0)", x.points(-1, 0), Due.BEYOND);
        due.is(12, "points(5, 0)", x.points(5, 0), Due.BEYOND);
        due.is(12, "points(0, -1)", x.points(0, -1), Due.BEYOND);
        due.is(12, "points(0, 21)", x.points(0, 21), Due.BEYOND);
        due.is(12, "points(0, 7)", x.points(0, 7), 7);
    }

    private static void likeness() {
        LostParcels x = new LostParcels();
        x.day(5);
        x.thing(0, 5, 10, 0, 1);
        x.thing(2, 5, 10, 0, 1);
        x.seeker(5);
        x.seeker(6);
        due.is(13, "no words", x.likeness(0, 0), 3);
        due.is(13, "found ahead of the day on which it was lost", x.likeness(1, 0), 0);
        x.word(0, 0, 0);
        due.is(13, "a right word", x.likeness(0, 0), 7);
        x.word(0, 1, 9);
        due.is(13, "a wrong word", x.likeness(0, 0), 5);
        x.points(1, 7);
        due.is(13, "a half is cut", x.likeness(0, 0), 4);
        x.points(1, 15);
        due.is(13, "just 0", x.likeness(0, 0), 0);
        x.points(1, 20);
        due.is(13, "below 0", x.likeness(0, 0), 0);
        x.word(0, 1, -1);
        due.is(13, "the word is taken back", x.likeness(0, 0), 7);
        for (int trait = 0; trait < 5; trait++) {
            x.points(trait, 20);
            x.trait(0, trait, 15);
            x.word(0, trait, 15);
        }
        due.is(13, "all words right", x.likeness(0, 0), 103);
        due.is(13, "food that is kept", x.likeness(0, 1), 0);
        x.points(0, 0);
        due.is(13, "points of none", x.likeness(0, 0), 83);
        due.is(13, "likeness(2, 0)", x.likeness(2, 0), Due.BEYOND);
        due.is(13, "likeness(-1, 0)", x.likeness(-1, 0), Due.BEYOND);
        due.is(13, "likeness(0, 2)", x.likeness(0, 2), Due.BEYOND);
        due.is(13, "likeness(0, -1)", x.likeness(0, -1), Due.BEYOND);
        for (int trait = 0; trait < 5; trait++) {
            x.word(0, trait, -1);
        }
        due.is(13, "food that is kept", x.likeness(0, 1), 3);
        x.day(8);
        due.is(13, "food that is spoilt", x.likeness(0, 1), 0);
        x.answer(0, 0, 1);
        due.is(13, "what is given", x.likeness(0, 0), 0);
        x.back(0);
        due.is(13, "what came back", x.likeness(0, 0), 3);
        for (int i = 0; i < 3; i++) {
            x.answer(0, 0, 9);
        }
        due.is(13, "who is barred", x.likeness(0, 0), 0);
        x.seeker(0);
        due.is(13, "who isn't", x.likeness(2, 0), 3);
        x.law(0, 0);
        x.sell(1, 0);
        due.is(13, "what is sold", x.likeness(2, 0), 0);
    }

    private static void chance() {
        LostParcels x = new LostParcels();
        x.thing(0, 0, 10, 0, 1);
        x.seeker(0);
        due.is(14, "alone", x.chance(0, 0), 1000);
        x.seeker(0);
        x.seeker(0);
        due.is(14, "a third, cut", x.chance(0, 0), 333);
        x.word(2, 0, 0);
        due.is(14, "49 of 67", x.chance(2, 0), 731);
        due.is(14, "9 of 67", x.chance(0, 0), 134);
        x.seeker(1);
        due.is(14, "no likeness", x.chance(3, 0), 0);
        x.span(0, 1, 1);
        x.span(1, 1, 1);
        x.word(2, 0, 1);
        x.points(0, 20);
        due.is(14, "nobody has any", x.chance(2, 0), 0);
        due.is(14, "chance(4, 0)", x.chance(4, 0), Due.BEYOND);
        due.is(14, "chance(-1, 0)", x.chance(-1, 0), Due.BEYOND);
        due.is(14, "chance(0, 1)", x.chance(0, 1), Due.BEYOND);
        due.is(14, "chance(0, -1)", x.chance(0, -1), Due.BEYOND);
    }

    private static void match() {
        LostParcels x = new LostParcels();
        due.is(15, "match(-1) of none", x.match(-1), 0);
        due.is(15, "match(0) of none", x.match(0), Due.BEYOND);
        due.is(15, "match(-2)", x.match(-2), Due.BEYOND);
        x.seeker(0);
        due.is(15, "no things", x.match(0), Due.NONE);
        for (int i = 0; i < 3; i++) {
            x.thing(0, 0, 10 * (i + 1), 0, 1);
        }
        due.is(15, "the least of equals", x.match(0), 0);
        x.seeker(0);
        due.is(15, "the first seeker first", x.match(0), 0);
        due.is(15, "the second behind", x.match(1), 1);
        due.is(15, "together", x.match(-1), 6);
        x.span(1, 1, 10);
        due.is(15, "the only one of the second is the second's", x.match(1), 0);
        due.is(15, "so the first has the next", x.match(0), 1);
        x.seeker(0);
        x.seeker(0);
        x.seeker(0);
        due.is(15, "more seekers than things", x.match(-1), 9);
        due.is(15, "match(0)", x.match(0), 0);
        due.is(15, "none is greater than all", x.match(1), Due.NONE);
        due.is(15, "match(2)", x.match(2), 1);
        due.is(15, "match(3)", x.match(3), 2);
        due.is(15, "match(4)", x.match(4), Due.NONE);
        due.is(15, "match(5)", x.match(5), Due.BEYOND);
        mostTogetherIsAboveFirst();
        fullMatch();
    }

    private static void mostTogetherIsAboveFirst() {
        LostParcels x = new LostParcels();
        x.thing(0, 0, 10, 0, 1);
        x.thing(0, 0, 10, 0, 1);
        x.trait(0, 0, 1);
        x.trait(1, 0, 1);
        x.trait(1, 1, 1);
        x.seeker(0);
        x.seeker(0);
        x.word(0, 0, 1);
        x.word(0, 1, 0);
        x.word(1, 0, 1);
        x.span(1, 1, 1);
        x.word(1, 1, 0);
        x.points(1, 20);
        due.is(15, "27 + 0, or 0 + 21", x.match(-1), 27);
        due.is(15, "the first's", x.match(0), 0);
        due.is(15, "one of likeness 0 isn't given", x.match(1), Due.NONE);
    }

    private static void fullMatch() {
        LostParcels x = new LostParcels();
        for (int t = 0; t < 20; t++) {
            x.thing(0, 0, 10, 0, 1);
            for (int trait = 0; trait < 5; trait++) {
                x.points(trait, 20);
                x.trait(t, trait, t >= 12 ? t - 11 : 0);
            }
        }
        for (int s = 0; s < 8; s++) {
            x.seeker(0);
            for (int trait = 0; trait < 5; trait++) {
                x.word(s, trait, 8 - s);
            }
        }
        due.is(15, "all as like as can be", x.match(-1), 824);
        for (int s = 0; s < 8; s++) {
            due.is(15, "match(" + s + ")", x.match(s), 19 - s);
        }
    }

    private static void seen() {
        LostParcels x = new LostParcels();
        x.thing(0, 0, 10, 0, 1);
        x.thing(0, 0, 10, 0, 2);
        x.thing(0, 0, 10, 0, 3);
        due.is(16, "seen(0, 0)", x.seen(0, 0), Due.BEYOND);
        x.seeker(0);
        x.seeker(77);
        due.is(16, "lost", x.seen(1, 0), 77);
        due.is(16, "false", x.seen(0, 1), 0);
        due.is(16, "barred", x.seen(0, 2), 0);
        due.is(16, "given", x.seen(0, 3), 0);
        x.answer(0, 0, 1);
        x.answer(0, 1, 2);
        due.is(16, "given", x.seen(0, 3), 2);
        due.is(16, "given to another", x.seen(1, 3), 0);
        x.back(0);
        due.is(16, "given, and back", x.seen(0, 3), 1);
        x.answer(0, 2, 9);
        x.answer(0, 2, 9);
        due.is(16, "false", x.seen(0, 1), 2);
        due.is(16, "not barred", x.seen(0, 2), 0);
        x.answer(0, 2, 9);
        due.is(16, "false", x.seen(0, 1), 3);
        due.is(16, "barred", x.seen(0, 2), 1);
        due.is(16, "what was given stays", x.seen(0, 3), 1);
        due.is(16, "seen(0, 4)", x.seen(0, 4), Due.BEYOND);
        due.is(16, "seen(0, -1)", x.seen(0, -1), Due.BEYOND);
        due.is(16, "seen(2, 0)", x.seen(2, 0), Due.BEYOND);
        due.is(16, "seen(-1, 0)", x.seen(-1, 0), Due.BEYOND);
    }

    private static void answer() {
        LostParcels x = new LostParcels();
        x.thing(0, 0, 10, 0, 9999);
        x.thing(0, 0, 10, 0, 1);
        x.thing(2, 0, 10, 0, 1);
        x.seeker(0);
        x.seeker(1);
        due.is(17, "answer(0, 0, 0)", x.answer(0, 0, 0), Due.BEYOND);
        due.is(17, "answer(0, 0, 10000)", x.answer(0, 0, 10000), Due.BEYOND);
        due.is(17, "answer(2, 0, 1)", x.answer(2, 0, 1), Due.BEYOND);
        due.is(17, "answer(-1, 0, 1)", x.answer(-1, 0, 1), Due.BEYOND);
        due.is(17, "answer(0, 3, 1)", x.answer(0, 3, 1), Due.BEYOND);
        due.is(17, "answer(0, -1, 1)", x.answer(0, -1, 1), Due.BEYOND);
        due.is(17, "no likeness", x.answer(1, 0, 9999), Due.STATE);
        due.is(17, "no likeness, no false", x.seen(1, 1), 0);
        due.is(17, "findings change nothing", x.seen(0, 1), 0);
        due.is(17, "a false one", x.answer(0, 0, 1), 0);
        due.is(17, "it is kept", x.about(0, 4), 0);
        due.is(17, "the right one", x.answer(0, 0, 9999), 1);
        due.is(17, "it is given", x.about(0, 4), 1);
        due.is(17, "a right one leaves false", x.seen(0, 1), 1);
        due.is(17, "it isn't kept", x.answer(0, 0, 9999), Due.STATE);
        x.day(3);
        due.is(17, "spoilt", x.answer(0, 2, 1), Due.STATE);
        due.is(17, "a second false one", x.answer(0, 1, 2), 0);
        due.is(17, "a third false one", x.answer(0, 1, 2), 0);
        due.is(17, "barred", x.answer(0, 1, 1), Due.STATE);
        due.is(17, "barred, false stays", x.seen(0, 1), 3);
        due.is(17, "found(3)", x.found(3), 4);
    }

    private static void back() {
        LostParcels x = new LostParcels();
        x.thing(0, 0, 10, 0, 1);
        x.thing(0, 0, 10, 0, 1);
        x.seeker(0);
        x.seeker(0);
        due.is(18, "back(2)", x.back(2), Due.BEYOND);
        due.is(18, "back(-1)", x.back(-1), Due.BEYOND);
        due.is(18, "it isn't given", x.back(0), Due.STATE);
        x.answer(1, 0, 1);
        due.is(18, "on the day", x.back(0), 1);
        due.is(18, "twice", x.back(0), Due.STATE);
        x.day(1);
        x.answer(1, 0, 1);
        x.answer(0, 1, 1);
        x.day(11);
        due.is(18, "10 days", x.back(0), 1);
        x.day(12);
        due.is(18, "11 days", x.back(1), Due.STATE);
        due.is(18, "it stays given", x.about(1, 4), 1);
        x.answer(0, 0, 1);
        x.day(22);
        due.is(18, "10 days behind the last time", x.back(0), 0);
    }
}
