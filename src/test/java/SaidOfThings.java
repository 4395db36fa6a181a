/** Things and days: the terms' first part, and promises 1 to 8. */
final class SaidOfThings {
    static void tell(Book b) {
        b.section("Terms 1");
        days(b);
        things(b);
        states(b);
        spoiling(b);
        newObject(b);
        thing(b);
        as(b);
        trait(b);
        about(b);
        day(b);
        spoil(b);
        known(b);
    }

    private static void days(Book b) {
        b.said("DAYS are 0 .. 9999;",
            "day(-1)=BEYOND day(MIN)=BEYOND day(10000)=BEYOND day(MAX)=BEYOND count(7)=0 day(0)=0 day(9999)=0"
                + " count(7)=9999",
            "seeker(-1)=BEYOND seeker(10000)=BEYOND seeker(MIN)=BEYOND seeker(MAX)=BEYOND seeker(0)=0 seeker(9999)=1",
            "thing(0,0,1,0,1) known(0,-1)=BEYOND known(0,0)=0 known(0,9999)=0 known(0,10000)=BEYOND",
            "day(9999) thing(0,9999,1,0,1)=0 about(0,1)=9999 thing(0,10000,1,0,1)=BEYOND thing(0,-1,1,0,1)=BEYOND");
        b.said("the DAY is 0 at first",
            "count(7)=0",
            "thing(0,1,1,0,1)=BEYOND thing(0,0,1,0,1)=0",
            "day(0)=0 count(7)=0");
        b.said("and never falls.",
            "day(1) day(0)=BEYOND count(7)=1",
            "day(7) day(6)=BEYOND count(7)=7 day(7)=0 day(8)=0 day(7)=BEYOND count(7)=8",
            "day(9999) day(9998)=BEYOND day(0)=BEYOND day(9999)=0 count(7)=9999");
    }

    private static void things(Book b) {
        b.said("THINGS 0, 1, .. (at most 20)",
            "thing(0,0,1,0,1)=0 thing(0,0,1,0,1)=1 thing(0,0,1,0,1)=2 16*thing(0,0,1,0,1) count(0)=19"
                + " thing(0,0,77,0,1)=19 thing(0,0,1,0,1)=FULL count(0)=20 about(19,2)=77 about(20,2)=BEYOND",
            // What is given, sold or spoilt takes its place still.
            "law(0,0) thing(0,0,1,0,1) thing(0,0,1,0,1) thing(2,0,1,0,1) seeker(0) answer(0,0,1)=1 sell(2,0)=0"
                + " day(3)=1 17*thing(0,0,1,0,1) thing(0,0,1,0,1)=FULL count(0)=20 count(1)=17");
        b.said("are of KINDS: 0 THING, 1 LETTER under THING, 2 FOOD under THING, 3 PURSE under THING.",
            "thing(-1,0,1,0,1)=BEYOND thing(4,0,1,0,1)=BEYOND thing(MIN,0,1,0,1)=BEYOND thing(MAX,0,1,0,1)=BEYOND"
                + " count(0)=0",
            "thing(0,0,10,0,1) thing(1,0,11,0,1) thing(2,0,12,0,1) thing(3,0,13,0,1) about(0,0)=0 about(1,0)=1"
                + " about(2,0)=2 about(3,0)=3 as(0,0)=10 as(1,0)=11 as(2,0)=12 as(3,0)=13 as(1,1)=11 as(2,2)=12"
                + " as(3,3)=13 as(0,1)=KIND as(0,2)=KIND as(0,3)=KIND as(1,2)=KIND as(1,3)=KIND as(2,1)=KIND"
                + " as(2,3)=KIND as(3,1)=KIND as(3,2)=KIND");
        b.said("Each was FOUND on a day (not behind the DAY on which it is told),",
            "day(5) thing(0,6,1,0,1)=BEYOND thing(0,5,1,0,1)=0 thing(0,4,1,0,1)=1 thing(0,0,1,0,1)=2"
                + " thing(0,-1,1,0,1)=BEYOND about(0,1)=5 about(1,1)=4 about(2,1)=0",
            "thing(0,MAX,1,0,1)=BEYOND thing(0,MIN,1,0,1)=BEYOND day(6) thing(0,6,1,0,1)=0 day(9) about(0,1)=6");
        b.said("has TRAITS 0 .. 4 (0 .. 15 each; 0 when it comes),",
            "thing(0,0,1,0,1) about(0,6)=0 about(0,7)=0 about(0,8)=0 about(0,9)=0 about(0,10)=0",
            "thing(0,0,1,0,1) trait(0,0,1)=0 trait(0,1,2)=0 trait(0,2,3)=0 trait(0,3,4)=0 trait(0,4,5)=0"
                + " trait(0,5,1)=BEYOND trait(0,-1,1)=BEYOND about(0,6)=1 about(0,7)=2 about(0,8)=3 about(0,9)=4"
                + " about(0,10)=5",
            "thing(0,0,1,0,1) trait(0,3,16)=BEYOND trait(0,3,15)=0 trait(0,3,-1)=BEYOND trait(0,3,0)=15 about(0,9)=0");
        b.said("a WEIGHT (1 .. 5000),",
            "thing(0,0,0,0,1)=BEYOND thing(0,0,1,0,1)=0 thing(0,0,2,0,1)=1 thing(0,0,4999,0,1)=2"
                + " thing(0,0,5000,0,1)=3 thing(0,0,5001,0,1)=BEYOND thing(0,0,MIN,0,1)=BEYOND"
                + " thing(0,0,MAX,0,1)=BEYOND thing(0,0,-1,0,1)=BEYOND about(0,2)=1 about(1,2)=2 about(2,2)=4999"
                + " about(3,2)=5000 count(0)=4");
        b.said("a WORTH (0 .. 10000),",
            "thing(0,0,1,-1,1)=BEYOND thing(0,0,1,0,1)=0 thing(0,0,1,1,1)=1 thing(0,0,1,9999,1)=2"
                + " thing(0,0,1,10000,1)=3 thing(0,0,1,10001,1)=BEYOND thing(0,0,1,MIN,1)=BEYOND"
                + " thing(0,0,1,MAX,1)=BEYOND about(0,3)=0 about(1,3)=1 about(2,3)=9999 about(3,3)=10000 count(0)=4");
        b.said("a SECRET (1 .. 9999).",
            "thing(0,0,1,0,0)=BEYOND thing(0,0,1,0,-1)=BEYOND thing(0,0,1,0,10000)=BEYOND thing(0,0,1,0,MIN)=BEYOND"
                + " thing(0,0,1,0,MAX)=BEYOND thing(0,0,1,0,1)=0 thing(0,0,1,0,9999)=1 seeker(0) answer(0,0,1)=1"
                + " answer(0,1,9999)=1");
    }

    private static void states(Book b) {
        b.said("It is KEPT, GIVEN, SOLD, or SPOILT.",
            "law(0,0) 3*thing(0,0,1,0,1) thing(2,0,1,0,1) seeker(0) answer(0,1,1) sell(4,0) day(3)=1 about(0,4)=0"
                + " about(1,4)=1 about(2,4)=2 about(3,4)=3 count(1)=1 count(2)=1 count(3)=1 count(4)=1");
    }

    private static void spoiling(Book b) {
        b.said("FOOD that is KEPT becomes SPOILT",
            "thing(0,0,1,0,1) thing(1,0,1,0,1) thing(2,0,1,0,1) thing(3,0,1,0,1) day(3)=1 about(0,4)=0 about(1,4)=0"
                + " about(2,4)=3 about(3,4)=0 day(9999)=0 count(4)=1",
            // Food that is given or sold isn't kept, so it does not spoil.
            "law(2,0) 3*thing(2,0,1,0,1) seeker(0) answer(0,0,1) sell(2,0) day(3)=1 about(0,4)=1 about(1,4)=2"
                + " about(2,4)=3 count(4)=1");
        b.said("when the DAY is SPOIL (0 .. 30; 3 at first) or more days behind the one on which it was FOUND",
            "thing(2,0,1,0,1) day(2)=0 about(0,4)=0 day(3)=1 about(0,4)=3",
            "thing(2,0,1,0,1) day(4)=1",
            "day(10) thing(2,8,1,0,1) thing(2,9,1,0,1) thing(2,10,1,0,1) day(10)=0 day(11)=1 day(12)=1 day(13)=1"
                + " day(14)=0",
            "spoil(-1)=BEYOND spoil(31)=BEYOND spoil(MIN)=BEYOND spoil(MAX)=BEYOND spoil(0)=3 spoil(30)=0"
                + " spoil(30)=30",
            "spoil(30) thing(2,0,1,0,1) day(29)=0 day(30)=1",
            "spoil(0) thing(2,0,1,0,1) about(0,4)=3 day(0)=0",
            "spoil(1) thing(2,0,1,0,1) about(0,4)=0 day(0)=0 day(1)=1");
        b.said("(that is looked at by day(), also if the DAY stays, and when it is told).",
            "thing(2,0,1,0,1) day(2) spoil(2) about(0,4)=0 day(2)=1 about(0,4)=3",
            "day(3) thing(2,1,1,0,1) about(0,4)=0 thing(2,0,1,0,1) about(1,4)=3 count(4)=1 day(3)=0",
            // Neither another thing, nor back, nor what is only asked looks at it.
            "thing(2,0,1,0,1) day(2) spoil(1) thing(0,0,1,0,1) thing(2,2,1,0,1) about(0,4)=0 sellable()=0"
                + " known(0,2)=0 count(1)=3 day(2)=1",
            "thing(2,0,1,0,1) seeker(0) answer(0,0,1) day(5)=0 back(0)=0 about(0,4)=0 likeness(0,0)=3 day(5)=1"
                + " about(0,4)=3 known(0,4)=1 known(0,5)=3");
    }

    private static void newObject(Book b) {
        b.section("Promise 1");
        b.said("No THINGS,",
            "count(0)=0 count(1)=0 count(2)=0 count(3)=0 count(4)=0 about(0,0)=BEYOND about(-1,0)=BEYOND sellable()=0"
                + " sell(1,0)=BEYOND lots(1,0,0,0)=BEYOND burst(1,1,0)=BEYOND burst(0,1,0)=NONE lots(0,0,0,0)=STATE"
                + " back(0)=BEYOND sold(0)=BEYOND counted(0)=BEYOND money(0,0,0)=BEYOND known(0,0)=BEYOND"
                + " as(0,0)=BEYOND trait(0,0,0)=BEYOND likeness(0,0)=BEYOND day(0)=0 thing(0,0,1,0,1)=0");
        b.said("no SEEKERS,",
            "count(5)=0 seen(0,0)=BEYOND match(0)=BEYOND match(-1)=0 check()=0 word(0,0,0)=BEYOND span(0,1,1)=BEYOND"
                + " thing(0,0,1,0,1) likeness(0,0)=BEYOND chance(0,0)=BEYOND answer(0,0,1)=BEYOND owed(0,0,1)=BEYOND"
                + " seeker(0)=0");
        b.said("no ADDRESSES;",
            "count(6)=0 post(0,0)=BEYOND fits(0,0,10)=BEYOND share(0,0,10)=BEYOND likely(0,13,0)=NONE address(1,0)=0");
        b.said("DAY 0.",
            "count(7)=0",
            "thing(0,0,1,0,1)=0 known(0,0)=0",
            "thing(0,1,1,0,1)=BEYOND");
    }

    private static void thing(Book b) {
        b.section("Promise 2");
        b.said("A THING: its number.",
            "thing(0,0,1,0,1)=0 thing(3,0,5000,10000,9999)=1 thing(0,0,1,0,1)=2",
            "thing(0,0,0,0,1)=BEYOND thing(0,0,1,0,1)=0");
        b.said("BEYOND: kind, found (0 .. the DAY), weight, worth, or secret isn't as told.",
            "day(2) thing(-1,0,1,0,1)=BEYOND thing(4,0,1,0,1)=BEYOND thing(0,-1,1,0,1)=BEYOND thing(0,3,1,0,1)=BEYOND"
                + " thing(0,0,0,0,1)=BEYOND thing(0,0,5001,0,1)=BEYOND thing(0,0,1,-1,1)=BEYOND"
                + " thing(0,0,1,10001,1)=BEYOND thing(0,0,1,0,0)=BEYOND thing(0,0,1,0,10000)=BEYOND count(0)=0"
                + " found(1)=10 thing(0,0,1,0,1)=0 thing(3,2,5000,10000,9999)=1 found(1)=10",
            "thing(MIN,MIN,MIN,MIN,MIN)=BEYOND thing(MAX,MAX,MAX,MAX,MAX)=BEYOND found(1)=2 count(0)=0");
        b.said("FULL.",
            "19*thing(0,0,1,0,1) thing(0,0,1,0,1)=19 thing(0,0,1,0,1)=FULL thing(1,0,1,0,1)=FULL found(4)=2"
                + " count(0)=20 sellable()=0 day(0)=0");
    }

    private static void as(Book b) {
        b.section("Promise 3");
        b.said("A THING as one of a kind: its WEIGHT.",
            "thing(0,0,1,0,1) as(0,0)=1 thing(3,0,5000,0,1) as(1,0)=5000 as(1,3)=5000 thing(1,0,7,0,1) as(2,1)=7"
                + " thing(2,0,8,0,1) as(3,2)=8",
            // Also when it isn't kept.
            "thing(2,0,8,0,1) seeker(0) answer(0,0,1) as(0,2)=8 back(0) day(3)=1 as(0,2)=8 as(0,0)=8");
        b.said("BEYOND: there is no such one, or kind.",
            "as(0,0)=BEYOND as(-1,0)=BEYOND thing(0,0,1,0,1) as(0,0)=1 as(1,0)=BEYOND as(-1,0)=BEYOND"
                + " as(MIN,0)=BEYOND as(MAX,0)=BEYOND as(0,-1)=BEYOND as(0,4)=BEYOND as(0,MIN)=BEYOND"
                + " as(0,MAX)=BEYOND",
            "20*thing(0,0,1,0,1) as(19,0)=1 as(20,0)=BEYOND");
        b.said("KIND: it isn't of that kind, nor of one under it.",
            "thing(0,0,1,0,1) as(0,1)=KIND as(0,2)=KIND as(0,3)=KIND as(0,0)=1 found(5)=3",
            "thing(1,0,1,0,1) as(0,0)=1 as(0,1)=1 as(0,2)=KIND as(0,3)=KIND",
            "thing(2,0,1,0,1) as(0,0)=1 as(0,1)=KIND as(0,2)=1 as(0,3)=KIND",
            "thing(3,0,1,0,1) as(0,0)=1 as(0,1)=KIND as(0,2)=KIND as(0,3)=1");
    }

    private static void trait(Book b) {
        b.section("Promise 4");
        b.said("A TRAIT of a THING: what it was.",
            "2*thing(0,0,1,0,1) trait(0,0,9)=0 trait(0,0,15)=9 trait(0,0,0)=15 trait(0,0,0)=0 trait(1,0,3)=0"
                + " about(0,6)=0",
            "thing(0,0,1,0,1) trait(0,4,9)=0 trait(0,3,1)=0 trait(0,4,2)=9 about(0,10)=2 about(0,9)=1 about(0,8)=0",
            // Also when it isn't kept.
            "thing(0,0,1,0,1) seeker(0) answer(0,0,1) trait(0,0,9)=0 trait(0,0,1)=9");
        b.said("BEYOND.",
            "trait(0,0,0)=BEYOND thing(0,0,1,0,1) trait(1,0,0)=BEYOND trait(-1,0,0)=BEYOND trait(MIN,0,0)=BEYOND"
                + " trait(MAX,0,0)=BEYOND trait(0,-1,0)=BEYOND trait(0,5,0)=BEYOND trait(0,MIN,0)=BEYOND"
                + " trait(0,MAX,0)=BEYOND trait(0,0,-1)=BEYOND trait(0,0,16)=BEYOND trait(0,0,MIN)=BEYOND"
                + " trait(0,0,MAX)=BEYOND found(1)=13 trait(0,0,15)=0 trait(0,4,15)=0");
    }

    private static void about(Book b) {
        b.section("Promise 5");
        b.said("Of a THING: 0 KIND, 1 the day FOUND, 2 WEIGHT, 3 WORTH,",
            "day(9) thing(3,8,44,55,66) about(0,0)=3 about(0,1)=8 about(0,2)=44 about(0,3)=55",
            "thing(1,0,5000,10000,9999) day(9999) about(0,0)=1 about(0,1)=0 about(0,2)=5000 about(0,3)=10000");
        b.said("4 what it is (0 KEPT, 1 GIVEN, 2 SOLD, 3 SPOILT),",
            "law(0,0) thing(0,0,1,0,1) about(0,4)=0 seeker(0) answer(0,0,1) about(0,4)=1 back(0) about(0,4)=0"
                + " sell(1,0) about(0,4)=2 thing(2,0,1,0,1) day(3) about(1,4)=3");
        b.said("5 the SEEKER who has it (-1),",
            "2*thing(0,0,1,0,1) about(0,5)=-1 2*seeker(0) answer(1,0,1) about(0,5)=1 about(1,5)=-1 back(0)"
                + " about(0,5)=-1 answer(0,0,1) about(0,5)=0 law(0,0) sell(2,0) about(1,5)=-1 owed(0,1,1)"
                + " about(1,5)=-1",
            "thing(0,0,1,0,1) seeker(0) answer(0,0,1) day(9999) about(0,5)=0");
        b.said("6 .. 10 TRAITS.",
            "thing(0,0,1,0,1) trait(0,0,11) trait(0,1,12) trait(0,2,13) trait(0,3,14) trait(0,4,15) about(0,6)=11"
                + " about(0,7)=12 about(0,8)=13 about(0,9)=14 about(0,10)=15");
        b.said("BEYOND: there is no such one, or another what.",
            "about(0,0)=BEYOND thing(0,0,1,0,1) about(0,0)=0 about(1,0)=BEYOND about(-1,0)=BEYOND about(MIN,0)=BEYOND"
                + " about(MAX,0)=BEYOND about(0,-1)=BEYOND about(0,11)=BEYOND about(0,MIN)=BEYOND about(0,MAX)=BEYOND",
            "20*thing(0,0,1,0,1) about(19,10)=0 about(20,10)=BEYOND");
        b.said("(No SECRET is ever told.)",
            "day(1) thing(3,1,2,3,7777) trait(0,0,4) trait(0,1,5) trait(0,2,6) trait(0,3,7) trait(0,4,8) about(0,0)=3"
                + " about(0,1)=1 about(0,2)=2 about(0,3)=3 about(0,4)=0 about(0,5)=-1 about(0,6)=4 about(0,7)=5"
                + " about(0,8)=6 about(0,9)=7 about(0,10)=8 about(0,11)=BEYOND about(0,12)=BEYOND");
    }

    private static void day(Book b) {
        b.section("Promise 6");
        b.said("It is a DAY: how many FOODS became SPOILT.",
            "day(0)=0 count(7)=0 day(4)=0 count(7)=4 day(4)=0",
            "3*thing(2,0,1,0,1) day(1) 2*thing(2,1,1,0,1) thing(0,0,1,0,1) day(2)=0 day(3)=3 day(3)=0 day(4)=2"
                + " day(5)=0 count(4)=5",
            "20*thing(2,0,1,0,1) day(9999)=20 count(4)=20 day(9999)=0");
        b.said("BEYOND: it isn't one, or ahead of the DAY.",
            "day(-1)=BEYOND day(10000)=BEYOND day(MIN)=BEYOND day(MAX)=BEYOND day(5)=0 day(4)=BEYOND day(0)=BEYOND"
                + " day(5)=0 found(1)=6 count(7)=5",
            // One that is refused does not look at foods.
            "thing(2,0,1,0,1) day(2) spoil(0) day(1)=BEYOND about(0,4)=0 day(10000)=BEYOND about(0,4)=0 day(2)=1");
    }

    private static void spoil(Book b) {
        b.section("Promise 7");
        b.said("SPOIL: what it was",
            "spoil(0)=3 spoil(30)=0 spoil(15)=30 spoil(15)=15 spoil(3)=15");
        b.said("(FOODS are looked at by the next day(), or thing() for that one).",
            "thing(2,0,1,0,1) spoil(0) about(0,4)=0 thing(2,0,1,0,1) about(1,4)=3 about(0,4)=0 day(0)=1 about(0,4)=3",
            // More days do not make food fresh again.
            "thing(2,0,1,0,1) day(3)=1 spoil(30) about(0,4)=3 day(4)=0 about(0,4)=3",
            "thing(2,0,1,0,1) spoil(5) day(4)=0 spoil(4) spoil(5) day(4)=0 day(5)=1");
        b.said("BEYOND.",
            "spoil(-1)=BEYOND spoil(31)=BEYOND spoil(MIN)=BEYOND spoil(MAX)=BEYOND found(1)=4 spoil(3)=3");
    }

    private static void known(Book b) {
        b.section("Promise 8");
        b.said("What a THING was AS KNOWN by a day.",
            "day(4) thing(0,2,1,0,1) known(0,2)=-1 known(0,3)=-1 known(0,4)=0 known(0,5)=0 known(0,0)=-1"
                + " known(0,9999)=0",
            "thing(0,0,1,0,1) seeker(0) day(5) answer(0,0,1) day(7) known(0,4)=0 known(0,5)=1 known(0,6)=1"
                + " known(0,7)=1 back(0) known(0,6)=1 known(0,7)=0 known(0,8)=0");
        b.said("BEYOND.",
            "known(0,0)=BEYOND thing(0,0,1,0,1) known(1,0)=BEYOND known(-1,0)=BEYOND known(MIN,0)=BEYOND"
                + " known(MAX,0)=BEYOND known(0,-1)=BEYOND known(0,10000)=BEYOND known(0,MIN)=BEYOND"
                + " known(0,MAX)=BEYOND found(1)=9 known(0,0)=0 known(0,9999)=0");
        b.section("Terms 7");
        b.said("AS KNOWN by a day: what a THING was (0 KEPT, 1 GIVEN, 2 SOLD, 3 SPOILT)",
            "law(0,0) 3*thing(0,0,1,0,1) thing(2,0,1,0,1) seeker(0) day(1) answer(0,1,1) day(2) sell(4,0) day(3)=1"
                + " day(4) known(0,4)=0 known(1,0)=0 known(1,1)=1 known(1,4)=1 known(2,1)=0 known(2,2)=2 known(2,4)=2"
                + " known(3,2)=0 known(3,3)=3 known(3,4)=3");
        b.said("behind all that was done on days up to it;",
            // Given, back and given again on one day; given and back on another.
            "thing(0,0,1,0,1) seeker(0) day(1) answer(0,0,1) back(0) answer(0,0,1) known(0,0)=0 known(0,1)=1 day(2)"
                + " back(0) answer(0,0,1) back(0) known(0,1)=1 known(0,2)=0 day(9) known(0,8)=0 known(0,9)=0",
            "law(0,0) thing(0,0,1,0,1) seeker(0) answer(0,0,1) back(0) sell(1,0) known(0,0)=2",
            // Food that is told too late is spoilt on the day on which it is told; else on the day that looks.
            "day(9) thing(2,0,1,0,1) known(0,8)=-1 known(0,9)=3",
            "thing(2,0,1,0,1) day(9)=1 known(0,3)=0 known(0,8)=0 known(0,9)=3",
            "thing(2,0,1,0,1) day(2) spoil(0) known(0,2)=0 day(2)=1 known(0,2)=3 known(0,1)=0");
        b.said("-1: it wasn't told yet.",
            "day(9999) thing(0,0,1,0,1) known(0,0)=-1 known(0,9998)=-1 known(0,9999)=0",
            "thing(0,0,1,0,1) known(0,0)=0",
            "thing(0,0,1,0,1) day(1) thing(0,0,1,0,1) known(0,0)=0 known(1,0)=-1 known(1,1)=0");
    }
}
