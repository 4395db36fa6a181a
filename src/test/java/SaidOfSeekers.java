/** Seekers: their part of the terms, and promises 9 to 18. */
final class SaidOfSeekers {
    static void tell(Book b) {
        b.section("Terms 1");
        seekers(b);
        likenessOfTerms(b);
        chanceOfTerms(b);
        matchOfTerms(b);
        answerOfTerms(b);
        seeker(b);
        word(b);
        span(b);
        points(b);
        likeness(b);
        chance(b);
        match(b);
        seen(b);
        answer(b);
        back(b);
    }

    private static void seekers(Book b) {
        b.said("SEEKERS 0, 1, .. (at most 8), each of whom LOST something on a day,",
            "seeker(0)=0 seeker(9999)=1 5*seeker(3) count(5)=7 seeker(4)=7 seeker(5)=FULL count(5)=8 seen(0,0)=0"
                + " seen(1,0)=9999 seen(7,0)=4 seen(8,0)=BEYOND",
            // A day that is still to come is one, too; who is barred takes a place still.
            "day(3) seeker(4)=0 thing(0,0,1,0,1) seeker(0)=1 3*answer(1,0,2)=0 6*seeker(0) seeker(0)=FULL");
        b.said("have WORDS: for each TRAIT a worth or none (none at first),",
            "seeker(0) word(0,0,-1)=-1 word(0,1,-1)=-1 word(0,2,-1)=-1 word(0,3,-1)=-1 word(0,4,-1)=-1",
            "seeker(0) word(0,0,0)=-1 word(0,0,15)=0 word(0,0,-1)=15 word(0,0,16)=BEYOND word(0,0,-2)=BEYOND"
                + " word(0,0,7)=-1",
            "2*seeker(0) word(0,0,1) word(0,1,2) word(0,2,3) word(0,3,4) word(0,4,5) word(0,5,6)=BEYOND"
                + " word(0,-1,6)=BEYOND word(0,0,0)=1 word(0,1,0)=2 word(0,2,0)=3 word(0,3,0)=4 word(0,4,0)=5"
                + " word(1,0,0)=-1",
            "thing(0,0,1,0,1) seeker(0) likeness(0,0)=3 word(0,2,0) likeness(0,0)=7 word(0,2,-1) likeness(0,0)=3");
        b.said("and a span of WEIGHT (1 .. 5000 at first).",
            "thing(0,0,1,0,1) thing(0,0,5000,0,1) seeker(0) likeness(0,0)=3 likeness(0,1)=3 span(0,2,5000)"
                + " likeness(0,0)=0 likeness(0,1)=3 span(0,1,4999) likeness(0,0)=3 likeness(0,1)=0");
        b.said("They are BARRED or not.",
            "thing(0,0,1,0,1) 2*seeker(0) seen(0,2)=0 3*answer(0,0,2)=0 seen(0,2)=1 seen(1,2)=0 likeness(1,0)=3");
    }

    private static void likenessOfTerms(Book b) {
        b.said("LIKENESS of a SEEKER and a THING: for each TRAIT that WORDS tell: POINTS of that TRAIT (0 .. 20; 4 at"
                + " first) if they are right,",
            "thing(0,0,1,0,1) seeker(0) likeness(0,0)=3 word(0,0,0) likeness(0,0)=7 word(0,1,0) likeness(0,0)=11"
                + " word(0,2,0) likeness(0,0)=15 word(0,3,0) likeness(0,0)=19 word(0,4,0) likeness(0,0)=23",
            "thing(0,0,1,0,1) seeker(0) word(0,3,0) points(3,20)=4 likeness(0,0)=23 points(3,0)=20 likeness(0,0)=3"
                + " points(3,1)=0 likeness(0,0)=4 points(2,20)=4 likeness(0,0)=4 points(3,21)=BEYOND"
                + " points(3,-1)=BEYOND likeness(0,0)=4",
            "thing(0,0,1,0,1) trait(0,4,15) seeker(0) word(0,4,15) likeness(0,0)=7 trait(0,4,14) likeness(0,0)=1",
            "thing(0,0,1,0,1) trait(0,0,2) trait(0,1,3) seeker(0) word(0,0,2) word(0,1,2) likeness(0,0)=5",
            "points(0,20) points(1,20) points(2,20) points(3,20) points(4,20) thing(0,0,1,0,1) seeker(0) word(0,0,0)"
                + " word(0,1,0) word(0,2,0) word(0,3,0) word(0,4,0) likeness(0,0)=103");
        b.said("else a half of them less;",
            "thing(0,0,1,0,1) seeker(0) word(0,0,1) likeness(0,0)=1 points(0,0) likeness(0,0)=3 points(0,1)"
                + " likeness(0,0)=3 points(0,2) likeness(0,0)=2 points(0,3) likeness(0,0)=2 points(0,5)"
                + " likeness(0,0)=1 points(0,6) likeness(0,0)=0 points(0,20) likeness(0,0)=0",
            // Each half is cut by itself: 1, 1 and 1 of 3, 3 and 3.
            "thing(0,0,1,0,1) seeker(0) points(0,3) points(1,3) points(2,3) points(3,20) word(0,0,1) word(0,1,1)"
                + " word(0,2,1) word(0,3,0) likeness(0,0)=20",
            "thing(0,0,1,0,1) seeker(0) points(0,20) points(1,20) word(0,0,1) word(0,1,0) likeness(0,0)=13");
        b.said("3 if its WEIGHT is in the span, else 3 less.",
            "thing(0,0,10,0,1) seeker(0) word(0,0,0) span(0,10,10) likeness(0,0)=7 span(0,9,10) likeness(0,0)=7"
                + " span(0,10,11) likeness(0,0)=7 span(0,11,12) likeness(0,0)=1 span(0,8,9) likeness(0,0)=1"
                + " span(0,1,5000) likeness(0,0)=7");
        b.said("It is 0 if that is below 0,",
            "thing(0,0,10,0,1) seeker(0) word(0,0,0) span(0,1,9) likeness(0,0)=1 points(0,3) likeness(0,0)=0"
                + " points(0,2) likeness(0,0)=0 points(0,0) likeness(0,0)=0",
            "thing(0,0,10,0,1) seeker(0) word(0,0,1) word(0,1,1) word(0,2,1) word(0,3,1) word(0,4,1) points(0,20)"
                + " points(1,20) points(2,20) points(3,20) points(4,20) span(0,1,1) likeness(0,0)=0 chance(0,0)=0");
        b.said("if the THING was FOUND ahead of the day on which it was LOST,",
            "day(9) thing(0,4,1,0,1) thing(0,5,1,0,1) thing(0,6,1,0,1) seeker(5) likeness(0,0)=0 likeness(0,1)=3"
                + " likeness(0,2)=3",
            "day(9999) thing(0,9998,1,0,1) thing(0,9999,1,0,1) seeker(9999) likeness(0,0)=0 likeness(0,1)=3",
            // The day found counts, not the day on which it is told.
            "day(5) thing(0,0,1,0,1) seeker(1) likeness(0,0)=0 seeker(0) likeness(1,0)=3");
        b.said("if it isn't KEPT,",
            "thing(0,0,1,0,1) 2*seeker(0) answer(0,0,1) likeness(0,0)=0 likeness(1,0)=0 back(0) likeness(0,0)=3",
            "law(0,0) thing(0,0,1,0,1) seeker(0) sell(1,0) likeness(0,0)=0",
            "thing(2,0,1,0,1) seeker(0) day(2) likeness(0,0)=3 day(3) likeness(0,0)=0");
        b.said("or the SEEKER is BARRED.",
            "thing(0,0,1,0,1) 2*seeker(0) 2*answer(0,0,2)=0 likeness(0,0)=3 answer(0,0,2)=0 likeness(0,0)=0"
                + " likeness(1,0)=3");
    }

    private static void chanceOfTerms(Book b) {
        b.said("CHANCE of a SEEKER for a THING: 1000 times the square of their LIKENESS, by the sum of the squares of"
                + " LIKENESSES of all SEEKERS and that THING;",
            "thing(0,0,1,0,1) seeker(0) chance(0,0)=1000 seeker(0) chance(0,0)=500 seeker(0) chance(0,0)=333"
                + " 5*seeker(0) chance(0,0)=125 chance(7,0)=125",
            // 103 and 1: 10609 and 1 of 10610; another thing's rivals do not count.
            "points(0,20) points(1,20) points(2,20) points(3,20) points(4,20) thing(0,0,9,0,1) thing(0,0,9,0,1)"
                + " 2*seeker(0) word(0,0,0) word(0,1,0) word(0,2,0) word(0,3,0) word(0,4,0) likeness(0,0)=103"
                + " points(0,4) likeness(0,0)=87 word(1,0,0) span(1,1,8) likeness(1,0)=1 chance(0,0)=999"
                + " chance(1,0)=0 trait(1,0,1) likeness(1,1)=0 chance(1,1)=0 chance(0,1)=1000",
            "thing(0,0,1,0,1) 2*seeker(0) word(0,0,0) chance(0,0)=844 chance(1,0)=155 3*answer(0,0,9)=0 chance(0,0)=0"
                + " chance(1,0)=1000");
        b.said("0 if that is 0.",
            "thing(0,0,2,0,1) seeker(0) span(0,1,1) chance(0,0)=0 seeker(0) chance(0,0)=0 chance(1,0)=1000",
            "thing(0,0,1,0,1) 2*seeker(1) chance(0,0)=0 chance(1,0)=0",
            "thing(0,0,1,0,1) 2*seeker(0) answer(0,0,1) chance(0,0)=0 chance(1,0)=0");
    }

    private static void matchOfTerms(Book b) {
        b.said("THE MATCH: of all ways to give SEEKERS a THING each, or none, no two the same, that in which"
                + " LIKENESSES together are most",
            // 7 and 11, not 7 and 5 by the first one's first.
            "2*thing(0,0,1,0,1) trait(0,0,1) trait(0,1,1) trait(1,0,1) 2*seeker(0) word(0,0,1) word(1,0,1)"
                + " word(1,1,1) likeness(0,0)=7 likeness(0,1)=7 likeness(1,0)=11 likeness(1,1)=5 match(0)=1"
                + " match(1)=0 match(-1)=18",
            // 6 and 5, not 9 alone: the greatest likeness is not of the match.
            "thing(0,0,1,0,1) thing(0,0,2,0,1) trait(0,0,1) trait(0,1,1) trait(1,0,1) points(1,2) 2*seeker(0)"
                + " word(0,0,1) word(0,1,1) word(1,1,1) span(1,1,1) likeness(0,0)=9 likeness(0,1)=6 likeness(1,0)=5"
                + " likeness(1,1)=0 match(0)=1 match(1)=0 match(-1)=11",
            // No two the same: one thing for three.
            "thing(0,0,1,0,1) 3*seeker(0) word(2,0,0) match(-1)=7 match(0)=NONE match(1)=NONE match(2)=0");
        b.said("(one of LIKENESS 0 isn't given);",
            "thing(0,0,2,0,1) seeker(0) span(0,1,1) match(0)=NONE match(-1)=0",
            "thing(0,0,1,0,1) seeker(0) word(0,0,1) points(0,5) match(0)=0 points(0,6) likeness(0,0)=0 match(0)=NONE"
                + " match(-1)=0",
            "thing(0,0,1,0,1) seeker(1) seeker(0) match(0)=NONE match(1)=0 match(-1)=3",
            "2*thing(0,0,1,0,1) seeker(0) answer(0,0,1) match(0)=1 back(0) match(0)=0 3*answer(0,0,2)=0"
                + " match(0)=NONE");
        b.said("of several that in which the first SEEKER has the least THING (none is greater than all),",
            "3*thing(0,0,1,0,1) seeker(0) match(0)=0 seeker(0) match(0)=0 match(1)=1 match(-1)=6",
            "thing(0,0,1,0,1) 2*seeker(0) match(0)=0 match(1)=NONE match(-1)=3",
            // The first may have 1 or 2, the second 0 or 1.
            "thing(0,0,10,0,1) thing(0,0,20,0,1) thing(0,0,30,0,1) 2*seeker(0) span(0,20,30) span(1,10,20) match(0)=1"
                + " match(1)=0 span(1,20,20) match(0)=2 match(1)=1 match(-1)=6",
            // The first has a thing rather than none, though another is left without.
            "thing(0,0,10,0,1) thing(0,0,20,0,1) 3*seeker(0) span(0,20,20) span(1,20,20) match(0)=1 match(1)=NONE"
                + " match(2)=0 match(-1)=6");
        b.said("then the second, and so on.",
            "4*thing(0,0,1,0,1) 3*seeker(0) match(0)=0 match(1)=1 match(2)=2 match(-1)=9",
            "2*thing(0,0,1,0,1) 4*seeker(0) match(0)=0 match(1)=1 match(2)=NONE match(3)=NONE match(-1)=6",
            // The first one is fixed on 2; then the second has the least it can, then the third.
            "thing(0,0,10,0,1) thing(0,0,20,0,1) thing(0,0,30,0,1) thing(0,0,40,0,1) 3*seeker(0) span(0,30,30)"
                + " span(2,20,40) match(0)=2 match(1)=0 match(2)=1 span(2,10,10) match(1)=1 match(2)=0",
            "20*thing(0,0,1,0,1) 8*seeker(0) match(0)=0 match(1)=1 match(2)=2 match(3)=3 match(4)=4 match(5)=5"
                + " match(6)=6 match(7)=7 match(-1)=24",
            // The last things are the only ones that eight seekers can have.
            "12*thing(0,0,9,0,1) 8*thing(0,0,1,0,1) 8*seeker(0) span(0,1,1) span(1,1,1) span(2,1,1) span(3,1,1)"
                + " span(4,1,1) span(5,1,1) span(6,1,1) span(7,1,1) match(0)=12 match(7)=19 match(-1)=24");
    }

    private static void answerOfTerms(Book b) {
        b.said("AN ANSWER of a SEEKER for a THING: if it is its SECRET, and their LIKENESS is above 0, the THING is"
                + " GIVEN to that one.",
            "2*thing(0,0,1,0,7) 2*seeker(0) answer(1,0,7)=1 about(0,4)=1 about(0,5)=1 about(1,4)=0 seen(1,3)=1"
                + " seen(0,3)=0",
            "thing(0,0,1,0,7) seeker(0) word(0,0,1) points(0,6) likeness(0,0)=0 answer(0,0,7)=STATE about(0,4)=0"
                + " points(0,5) likeness(0,0)=1 answer(0,0,7)=1",
            // Rivals who are more like it do not hinder.
            "thing(0,0,1,0,7) 2*seeker(0) word(0,0,0) match(1)=NONE answer(1,0,7)=1");
        b.said("If it is another number: FALSE of that SEEKER is one more;",
            "2*thing(0,0,1,0,7) thing(0,0,1,0,9999) 2*seeker(0) answer(0,0,6)=0 seen(0,1)=1 answer(0,0,8)=0"
                + " seen(0,1)=2 seen(1,1)=0 about(0,4)=0 answer(1,2,9998)=0 answer(1,2,1)=0 seen(1,1)=2"
                + " answer(1,2,9999)=1 seen(1,1)=2");
        b.said("with 3 the SEEKER is BARRED.",
            "thing(0,0,1,0,7) thing(0,0,1,0,8) seeker(0) answer(0,0,8)=0 answer(0,1,7)=0 seen(0,2)=0 likeness(0,0)=3"
                + " answer(0,0,9)=0 seen(0,2)=1 seen(0,1)=3 answer(0,0,7)=STATE answer(0,1,8)=STATE likeness(0,0)=0",
            // With 2 a right one is still good, and FALSE stays.
            "2*thing(0,0,1,0,7) seeker(0) 2*answer(0,0,8)=0 answer(0,0,7)=1 seen(0,1)=2 answer(0,1,8)=0 seen(0,2)=1"
                + " seen(0,3)=1");
        b.said("Back it may come: a THING that was GIVEN on the DAY or on up to 10 days ahead is KEPT again.",
            "thing(0,0,1,0,7) seeker(0) answer(0,0,7) back(0)=0 about(0,4)=0",
            "thing(0,0,1,0,7) seeker(0) answer(0,0,7) day(1) back(0)=0",
            "thing(0,0,1,0,7) seeker(0) answer(0,0,7) day(10) back(0)=0 about(0,4)=0 about(0,5)=-1 count(1)=1",
            "thing(0,0,1,0,7) seeker(0) answer(0,0,7) day(11) back(0)=STATE about(0,4)=1 about(0,5)=0",
            // The last time it was given counts; it comes back from the barred, too.
            "thing(0,0,1,0,7) 2*seeker(0) answer(0,0,7) day(5) back(0)=0 answer(1,0,7) day(15) back(0)=1",
            "2*thing(0,0,1,0,7) seeker(0) answer(0,0,7) 3*answer(0,1,8)=0 back(0)=0 seen(0,3)=0");
    }

    private static void seeker(Book b) {
        b.section("Promise 9");
        b.said("A SEEKER: the number.",
            "seeker(0)=0 seeker(9999)=1 seeker(0)=2",
            "seeker(-1)=BEYOND seeker(0)=0");
        b.said("BEYOND: lost isn't a day.",
            "seeker(-1)=BEYOND seeker(10000)=BEYOND seeker(MIN)=BEYOND seeker(MAX)=BEYOND count(5)=0 found(1)=4"
                + " seeker(0)=0 seeker(9999)=1 found(1)=4 count(5)=2");
        b.said("FULL.",
            "7*seeker(0) seeker(0)=7 seeker(0)=FULL seeker(9999)=FULL found(4)=2 count(5)=8 match(8)=BEYOND"
                + " match(7)=NONE");
    }

    private static void word(Book b) {
        b.section("Promise 10");
        b.said("WORDS of a SEEKER tell a TRAIT (worth -1: they don't): what they told.",
            "2*seeker(0) word(0,0,0)=-1 word(0,0,1)=0 word(0,0,15)=1 word(0,0,-1)=15 word(0,0,-1)=-1 word(0,4,15)=-1"
                + " word(0,4,0)=15 word(1,4,3)=-1 word(0,3,2)=-1",
            "thing(0,0,1,0,1) trait(0,1,9) seeker(0) word(0,1,9) likeness(0,0)=7 word(0,1,8) likeness(0,0)=1"
                + " word(0,1,-1) likeness(0,0)=3",
            // Of the barred, too.
            "thing(0,0,1,0,1) seeker(0) 3*answer(0,0,2) word(0,0,5)=-1 word(0,0,6)=5");
        b.said("BEYOND.",
            "word(0,0,0)=BEYOND seeker(0) word(1,0,0)=BEYOND word(-1,0,0)=BEYOND word(MIN,0,0)=BEYOND"
                + " word(MAX,0,0)=BEYOND word(0,-1,0)=BEYOND word(0,5,0)=BEYOND word(0,MIN,0)=BEYOND"
                + " word(0,MAX,0)=BEYOND word(0,0,-2)=BEYOND word(0,0,16)=BEYOND word(0,0,MIN)=BEYOND"
                + " word(0,0,MAX)=BEYOND found(1)=13 word(0,0,-1)=-1 word(0,4,15)=-1",
            "8*seeker(0) word(7,0,0)=-1 word(8,0,0)=BEYOND");
    }

    private static void span(Book b) {
        b.section("Promise 11");
        b.said("The span of WEIGHT: 1.",
            "seeker(0) span(0,1,5000)=1 span(0,1,1)=1 span(0,5000,5000)=1 span(0,2,3)=1 span(0,2,3)=1",
            "thing(0,0,10,0,1) 2*seeker(0) span(0,11,11)=1 likeness(0,0)=0 likeness(1,0)=3 span(0,10,10)=1"
                + " likeness(0,0)=3 span(0,9,9)=1 likeness(0,0)=0");
        b.said("BEYOND: there is no such one, or low, high (1 .. 5000, low not above high) aren't as told.",
            "span(0,1,1)=BEYOND seeker(0) span(1,1,1)=BEYOND span(-1,1,1)=BEYOND span(MIN,1,1)=BEYOND"
                + " span(MAX,1,1)=BEYOND span(0,0,1)=BEYOND span(0,0,0)=BEYOND span(0,-1,5)=BEYOND"
                + " span(0,MIN,5)=BEYOND span(0,MIN,MAX)=BEYOND span(0,5000,5001)=BEYOND span(0,5001,5001)=BEYOND"
                + " span(0,1,MAX)=BEYOND span(0,6,5)=BEYOND span(0,5000,1)=BEYOND span(0,5,MIN)=BEYOND found(1)=16"
                + " span(0,5,5)=1 span(0,5,6)=1",
            "thing(0,0,1,0,1) seeker(0) span(0,2,2) span(0,0,5000)=BEYOND span(0,1,5001)=BEYOND likeness(0,0)=0"
                + " span(0,1,5000)=1 span(0,3,2)=BEYOND likeness(0,0)=3");
    }

    private static void points(Book b) {
        b.section("Promise 12");
        b.said("POINTS of a TRAIT: what they were.",
            "points(0,0)=4 points(1,20)=4 points(2,1)=4 points(3,19)=4 points(4,4)=4 points(0,5)=0 points(1,5)=20"
                + " points(2,5)=1 points(3,5)=19 points(4,5)=4",
            "thing(0,0,1,0,1) seeker(0) word(0,4,0) points(4,9) likeness(0,0)=12 points(3,20) likeness(0,0)=12");
        b.said("BEYOND.",
            "points(-1,4)=BEYOND points(5,4)=BEYOND points(MIN,4)=BEYOND points(MAX,4)=BEYOND points(0,-1)=BEYOND"
                + " points(0,21)=BEYOND points(0,MIN)=BEYOND points(0,MAX)=BEYOND found(1)=8 points(0,0)=4"
                + " points(0,20)=0 points(4,20)=4");
    }

    private static void likeness(Book b) {
        b.section("Promise 13");
        b.said("LIKENESS.",
            "thing(0,0,1,0,1) thing(0,0,2,0,1) 2*seeker(0) span(1,2,2) likeness(0,0)=3 likeness(0,1)=3"
                + " likeness(1,0)=0 likeness(1,1)=3");
        b.said("BEYOND.",
            "likeness(0,0)=BEYOND thing(0,0,1,0,1) likeness(0,0)=BEYOND seeker(0) likeness(0,0)=3"
                + " likeness(1,0)=BEYOND likeness(-1,0)=BEYOND likeness(MIN,0)=BEYOND likeness(MAX,0)=BEYOND"
                + " likeness(0,1)=BEYOND likeness(0,-1)=BEYOND likeness(0,MIN)=BEYOND likeness(0,MAX)=BEYOND"
                + " found(1)=10",
            "seeker(0) likeness(0,0)=BEYOND",
            "20*thing(0,0,1,0,1) 8*seeker(0) likeness(7,19)=3 likeness(8,19)=BEYOND likeness(7,20)=BEYOND");
    }

    private static void chance(Book b) {
        b.section("Promise 14");
        b.said("CHANCE.",
            "thing(0,0,1,0,1) thing(0,0,2,0,1) 2*seeker(0) span(1,2,2) chance(0,0)=1000 chance(1,0)=0 chance(0,1)=500"
                + " chance(1,1)=500");
        b.said("BEYOND.",
            "chance(0,0)=BEYOND thing(0,0,1,0,1) chance(0,0)=BEYOND seeker(0) chance(0,0)=1000 chance(1,0)=BEYOND"
                + " chance(-1,0)=BEYOND chance(MIN,0)=BEYOND chance(MAX,0)=BEYOND chance(0,1)=BEYOND"
                + " chance(0,-1)=BEYOND chance(0,MIN)=BEYOND chance(0,MAX)=BEYOND found(1)=10",
            "seeker(0) chance(0,0)=BEYOND",
            "20*thing(0,0,1,0,1) 8*seeker(0) chance(7,19)=125 chance(8,19)=BEYOND chance(7,20)=BEYOND");
    }

    private static void match(Book b) {
        b.section("Promise 15");
        b.said("THE MATCH: the THING of a SEEKER;",
            "2*thing(0,0,1,0,1) 2*seeker(0) match(0)=0 match(1)=1 span(0,2,2) match(0)=NONE match(1)=0",
            // It only tells: nothing is given by it.
            "thing(0,0,1,0,1) seeker(0) match(0)=0 match(0)=0 about(0,4)=0 about(0,5)=-1 count(2)=0");
        b.said("seeker -1: all LIKENESSES together.",
            "match(-1)=0 thing(0,0,1,0,1) match(-1)=0 seeker(0) match(-1)=3 word(0,0,0) match(-1)=7 seeker(0)"
                + " match(-1)=7 thing(0,0,1,0,1) match(-1)=10 span(0,2,2) points(0,0) match(-1)=3 span(1,2,2)"
                + " match(-1)=0 found(2)=0");
        b.said("BEYOND.",
            "match(0)=BEYOND match(-2)=BEYOND match(MIN)=BEYOND match(MAX)=BEYOND seeker(0) match(0)=NONE"
                + " match(1)=BEYOND match(-2)=BEYOND found(1)=6",
            "8*seeker(0) match(7)=NONE match(8)=BEYOND");
        b.said("NONE: that one has none.",
            "seeker(0) match(0)=NONE thing(0,0,1,0,1) match(0)=0 seeker(0) match(1)=NONE answer(1,0,1) match(0)=NONE"
                + " match(1)=NONE found(2)=4");
    }

    private static void seen(Book b) {
        b.section("Promise 16");
        b.said("Of a SEEKER: 0 the day LOST,",
            "seeker(0) seeker(9999) seeker(77) seen(0,0)=0 seen(1,0)=9999 seen(2,0)=77");
        b.said("1 FALSE,",
            "thing(0,0,1,0,1) 2*seeker(0) seen(0,1)=0 answer(0,0,2) seen(0,1)=1 answer(0,0,2) seen(0,1)=2"
                + " answer(0,0,2) seen(0,1)=3 answer(0,0,2)=STATE seen(0,1)=3 seen(1,1)=0");
        b.said("2 1 if BARRED,",
            "thing(0,0,1,0,1) 2*seeker(0) seen(0,2)=0 2*answer(0,0,2) seen(0,2)=0 answer(0,0,2) seen(0,2)=1"
                + " seen(1,2)=0");
        b.said("3 how many THINGS were GIVEN to that one (and did not come back).",
            "3*thing(0,0,1,0,1) 2*seeker(0) seen(0,3)=0 answer(0,0,1) seen(0,3)=1 answer(0,1,1) seen(0,3)=2"
                + " seen(1,3)=0 back(0) seen(0,3)=1 answer(1,0,1) seen(0,3)=1 seen(1,3)=1 answer(0,2,1) seen(0,3)=2"
                + " day(9999) seen(0,3)=2",
            "20*thing(0,0,1,0,1) seeker(0) answer(0,0,1) answer(0,19,1) seen(0,3)=2",
            // What came back and was sold is no more with that one.
            "law(0,0) thing(0,0,1,0,1) seeker(0) answer(0,0,1) back(0) sell(1,0) seen(0,3)=0 owed(0,0,1)=0"
                + " seen(0,3)=0");
        b.said("BEYOND.",
            "seen(0,0)=BEYOND seeker(0) seen(0,0)=0 seen(1,0)=BEYOND seen(-1,0)=BEYOND seen(MIN,0)=BEYOND"
                + " seen(MAX,0)=BEYOND seen(0,-1)=BEYOND seen(0,4)=BEYOND seen(0,MIN)=BEYOND seen(0,MAX)=BEYOND"
                + " seen(0,3)=0 found(1)=9",
            "8*seeker(0) seen(7,3)=0 seen(8,3)=BEYOND");
    }

    private static void answer(Book b) {
        b.section("Promise 17");
        b.said("AN ANSWER: 1 it is GIVEN, 0 not.",
            "thing(0,0,1,0,7) seeker(0) answer(0,0,6)=0 about(0,4)=0 answer(0,0,7)=1 about(0,4)=1 about(0,5)=0"
                + " seen(0,3)=1",
            "thing(1,0,1,0,1) thing(2,0,1,0,9999) thing(3,0,1,0,5) 3*seeker(0) answer(2,0,1)=1 answer(1,1,9999)=1"
                + " answer(0,2,5)=1 count(2)=3");
        b.said("BEYOND: there is no such one, or secret isn't 1 .. 9999.",
            "answer(0,0,1)=BEYOND thing(0,0,1,0,1) answer(0,0,1)=BEYOND seeker(0) answer(1,0,1)=BEYOND"
                + " answer(-1,0,1)=BEYOND answer(MIN,0,1)=BEYOND answer(MAX,0,1)=BEYOND answer(0,1,1)=BEYOND"
                + " answer(0,-1,1)=BEYOND answer(0,MIN,1)=BEYOND answer(0,MAX,1)=BEYOND answer(0,0,0)=BEYOND"
                + " answer(0,0,-1)=BEYOND answer(0,0,10000)=BEYOND answer(0,0,MIN)=BEYOND answer(0,0,MAX)=BEYOND"
                + " seen(0,1)=0 about(0,4)=0 answer(0,0,9999)=0 seen(0,1)=1 answer(0,0,1)=1");
        b.said("STATE: the THING isn't KEPT,",
            "thing(0,0,1,0,1) 2*seeker(0) answer(0,0,1)=1 answer(0,0,1)=STATE answer(1,0,1)=STATE answer(1,0,2)=STATE"
                + " seen(1,1)=0",
            "law(0,0) thing(0,0,1,0,1) seeker(0) sell(1,0) answer(0,0,1)=STATE answer(0,0,2)=STATE seen(0,1)=0",
            "thing(2,0,1,0,1) seeker(0) day(3)=1 answer(0,0,1)=STATE answer(0,0,2)=STATE seen(0,1)=0");
        b.said("the SEEKER is BARRED,",
            "2*thing(0,0,1,0,1) 2*seeker(0) 3*answer(0,0,2)=0 answer(0,0,1)=STATE answer(0,1,1)=STATE"
                + " answer(0,1,2)=STATE seen(0,1)=3 answer(1,0,1)=1");
        b.said("or their LIKENESS is 0.",
            "thing(0,0,2,0,1) seeker(0) span(0,1,1) answer(0,0,1)=STATE answer(0,0,2)=STATE seen(0,1)=0 about(0,4)=0"
                + " span(0,2,2) answer(0,0,2)=0 answer(0,0,1)=1",
            "thing(0,0,2,0,1) seeker(1) answer(0,0,1)=STATE");
    }

    private static void back(Book b) {
        b.section("Promise 18");
        b.said("It comes back: who had it.",
            "2*thing(0,0,1,0,1) 3*seeker(0) answer(2,0,1) answer(1,1,1) back(0)=2 back(1)=1 about(0,4)=0"
                + " about(0,5)=-1 count(2)=0 answer(0,0,1)=1 back(0)=0");
        b.said("BEYOND.",
            "back(0)=BEYOND thing(0,0,1,0,1) back(1)=BEYOND back(-1)=BEYOND back(MIN)=BEYOND back(MAX)=BEYOND"
                + " found(1)=5 back(0)=STATE");
        b.said("STATE: it isn't GIVEN,",
            "law(0,0) thing(0,0,1,0,1) thing(2,0,1,0,1) seeker(0) back(0)=STATE answer(0,0,1) back(0)=0 back(0)=STATE"
                + " sell(1,0) back(0)=STATE day(3)=1 back(1)=STATE found(3)=4 about(0,4)=2 about(1,4)=3");
        b.said("or was more than 10 days ago.",
            "day(7) 3*thing(0,0,1,0,1) seeker(0) answer(0,0,1) answer(0,1,1) answer(0,2,1) day(16) back(0)=0 day(17)"
                + " back(1)=0 day(18) back(2)=STATE about(2,4)=1 seen(0,3)=1 day(9999) back(2)=STATE",
            "day(9989) thing(0,0,1,0,1) seeker(0) answer(0,0,1) day(9999) back(0)=0");
    }
}
