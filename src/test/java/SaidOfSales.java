/** The law and sales: the terms' third part, and promises 24 to 29. */
final class SaidOfSales {
    static void tell(Book b) {
        b.section("Terms 3");
        lawOfTerms(b);
        saleOfTerms(b);
        lotsOfTerms(b);
        law(b);
        sellable(b);
        sell(b);
        sold(b);
        owed(b);
        lots(b);
    }

    private static void lawOfTerms(Book b) {
        b.said("THE LAW keeps KINDS for MONTHS (0 .. 60; 12 at first)",
            "law(0,-1)=BEYOND law(0,61)=BEYOND law(0,0)=12 law(1,60)=12 law(2,1)=12 law(3,59)=12 law(0,60)=0"
                + " law(1,0)=60 law(2,0)=1 law(3,0)=59",
            // Each kind has months of its own.
            "thing(0,0,1,0,1) thing(3,0,1,0,1) law(0,0) sellable()=1 law(0,1) law(3,0) sellable()=2",
            "spoil(30) thing(0,0,1,0,1) thing(2,0,1,0,1) law(2,0) sellable()=2");
        b.said("of 30 days from the day on which a THING was FOUND: behind them (on that day, too) it may be SOLD,",
            "thing(0,0,1,0,1) day(359) sellable()=0 day(360) sellable()=1 day(361) sellable()=1",
            "law(0,1) thing(0,0,1,0,1) day(29) sellable()=0 sell(1,0)=STATE day(30) sellable()=1 sell(1,0)=0",
            "law(0,60) thing(0,0,1,0,1) day(1799) sellable()=0 day(1800) sellable()=1",
            "law(0,0) thing(0,0,1,0,1) sellable()=1",
            // From the day found, not from that on which it was told.
            "law(0,1) day(35) thing(0,6,1,0,1) thing(0,5,1,0,1) thing(0,4,1,0,1) sellable()=6 day(36) sellable()=7");
        b.said("if it is KEPT",
            "law(0,0) law(2,0) 3*thing(0,0,1,0,1) thing(2,0,1,0,1) seeker(0) sellable()=15 answer(0,0,1)"
                + " sellable()=14 sell(2,0) sellable()=12 day(3)=1 sellable()=4 back(0) sellable()=5 sell(2,0)=STATE"
                + " sell(8,0)=STATE");
        b.said("and is no LETTER.",
            "law(1,0) thing(1,0,1,0,1) sellable()=0 sell(1,0)=STATE lots(1,0,0,0)=STATE day(9999) sellable()=0"
                + " sell(1,0)=STATE");
    }

    private static void saleOfTerms(Book b) {
        b.said("A SALE of some THINGS for a SUM (0 .. 100000):",
            "law(0,0) 4*thing(0,0,1,1,1) sell(1,-1)=BEYOND sell(1,100001)=BEYOND sell(1,MIN)=BEYOND"
                + " sell(1,MAX)=BEYOND count(3)=0 sell(1,0)=0 sold(0)=0 sell(10,100000)=0 sold(1)=50000 sold(3)=50000"
                + " sold(2)=STATE about(2,4)=0 count(3)=3");
        b.said("SHARE of each: SUM times its WORTH by all WORTHS, cut",
            "law(0,0) thing(0,0,1,1,1) thing(0,0,1,2,1) thing(0,0,1,7,1) sell(7,100)=0 sold(0)=10 sold(1)=20"
                + " sold(2)=70",
            "law(0,0) thing(0,0,1,1,1) thing(0,0,1,2,1) thing(0,0,1,7,1) sell(7,99)=2 sold(0)=10 sold(1)=20"
                + " sold(2)=69",
            // The greatest product there is, and the worths of those that are sold alone.
            "law(0,0) 20*thing(0,0,1,10000,1) sell(1048575,100000)=0 sold(0)=5000 sold(19)=5000",
            "law(0,0) thing(0,0,1,10000,1) thing(0,0,1,10000,1) sell(2,99999)=0 sold(1)=99999");
        b.said("(with all WORTHS 0: SUM by how many);",
            "law(0,0) 4*thing(0,0,1,0,1) sell(15,16)=0 sold(0)=4 sold(3)=4",
            "law(0,0) 3*thing(0,0,1,0,1) sell(5,7)=1 sold(0)=4 sold(2)=3",
            "law(0,0) 3*thing(0,0,1,0,1) sell(7,2)=2 sold(0)=1 sold(1)=1 sold(2)=0",
            "law(0,0) thing(0,0,1,0,1) sell(1,0)=0 sold(0)=0",
            // One worth above 0 is enough.
            "law(0,0) 2*thing(0,0,1,0,1) thing(0,0,1,1,1) sell(7,9)=0 sold(0)=0 sold(1)=0 sold(2)=9");
        b.said("what is left over of SUM goes to the first ones by numbers, 1 each.",
            "law(0,0) 4*thing(0,0,1,1,1) sell(15,7)=3 sold(0)=2 sold(1)=2 sold(2)=2 sold(3)=1",
            "law(0,0) 4*thing(0,0,1,1,1) sell(14,5)=2 sold(1)=2 sold(2)=2 sold(3)=1 sold(0)=STATE",
            // Also to one of worth 0: 0, 33 and 66 are cut of 100 by 0, 1 and 2.
            "law(0,0) thing(0,0,1,0,1) thing(0,0,1,1,1) thing(0,0,1,2,1) sell(7,100)=1 sold(0)=1 sold(1)=33"
                + " sold(2)=66",
            "law(0,0) 20*thing(0,0,1,1,1) sell(1048575,19)=19 sold(0)=1 sold(18)=1 sold(19)=0");
        b.said("OWED to a SEEKER who tells the SECRET of a SOLD THING: its SHARE less a tenth (cut),",
            "law(0,0) thing(0,0,1,1,7) seeker(0) sell(1,9) owed(0,0,7)=9",
            "law(0,0) thing(0,0,1,1,7) seeker(0) sell(1,10) owed(0,0,7)=9",
            "law(0,0) thing(0,0,1,1,7) seeker(0) sell(1,19) owed(0,0,7)=18",
            "law(0,0) thing(0,0,1,1,7) seeker(0) sell(1,20) owed(0,0,7)=18",
            "law(0,0) thing(0,0,1,1,7) seeker(0) sell(1,100000) owed(0,0,7)=90000",
            "law(0,0) thing(0,0,1,1,7) seeker(0) sell(1,0) owed(0,0,7)=0",
            // What was left over is of the share, too.
            "law(0,0) 2*thing(0,0,1,1,7) seeker(0) sell(3,19)=1 owed(0,0,7)=9 owed(0,1,7)=9");
        b.said("if the DAY is at most 1095 days behind the SALE;",
            "law(0,0) 3*thing(0,0,1,1,7) seeker(0) day(5) sell(7,30) day(1099) owed(0,0,7)=9 day(1100) owed(0,1,7)=9"
                + " day(1101) owed(0,2,7)=STATE count(10)=18",
            "law(0,0) thing(0,0,1,1,7) seeker(0) sell(1,10) owed(0,0,7)=9");
        b.said("paid once.",
            "law(0,0) 2*thing(0,0,1,1,7) 2*seeker(0) sell(3,20) owed(0,0,7)=9 owed(0,0,7)=STATE owed(1,0,7)=STATE"
                + " owed(1,1,7)=9 count(10)=18",
            "law(0,0) thing(0,0,1,1,7) seeker(0) sell(1,0) owed(0,0,7)=0 owed(0,0,7)=STATE");
    }

    private static void lotsOfTerms(Book b) {
        b.said("LOTS: of up to 10 THINGS that may be SOLD now, told as bits:",
            "law(0,0) 11*thing(0,0,1,1,1) lots(1023,0,100,0)=1 lots(1023,0,100,1)=1023 lots(2046,0,100,1)=2046"
                + " lots(2047,0,100,0)=STATE lots(1,0,100,1)=1 lots(1024,0,100,1)=1024",
            "law(0,0) 2*thing(0,0,1,1,1) thing(1,0,1,1,1) lots(3,0,9,0)=1 lots(7,0,9,0)=STATE seeker(0) answer(0,1,1)"
                + " lots(3,0,9,0)=STATE lots(1,0,9,0)=1");
        b.said("of all ways to part them into LOTS with WORTHS together from a low to a high number each,",
            "law(0,0) thing(0,0,1,4,1) thing(0,0,1,6,1) lots(3,10,10,0)=1 lots(3,11,20,0)=NONE lots(3,0,9,0)=2"
                + " lots(3,4,6,0)=2 lots(3,5,6,0)=NONE lots(3,4,5,0)=NONE lots(3,5,9,0)=NONE lots(3,9,10,0)=1"
                + " lots(3,0,10,0)=1",
            "law(0,0) 10*thing(0,0,1,10000,1) lots(1023,100000,100000,0)=1 lots(1023,0,99999,0)=2"
                + " lots(1023,0,9999,0)=NONE lots(1023,10000,10000,0)=10",
            "law(0,0) 2*thing(0,0,1,0,1) lots(3,0,0,0)=1 lots(3,0,0,1)=3 lots(3,1,1,0)=NONE");
        b.said("that with the fewest LOTS;",
            "law(0,0) 4*thing(0,0,1,5,1) lots(15,5,20,0)=1 lots(15,5,19,0)=2 lots(15,5,10,0)=2 lots(15,5,9,0)=4"
                + " lots(15,5,5,0)=4",
            // 7 alone, and a 4 with each 3: the first lot is not that of the first two.
            "law(0,0) thing(0,0,1,3,1) thing(0,0,1,3,1) thing(0,0,1,4,1) thing(0,0,1,4,1) thing(0,0,1,7,1)"
                + " lots(31,7,7,0)=3 lots(31,7,7,1)=5 lots(31,7,7,2)=10 lots(31,7,7,3)=16");
        b.said("of several the one whose LOT with the first THING is less as bits,",
            "law(0,0) 3*thing(0,0,1,5,1) lots(7,5,10,0)=2 lots(7,5,10,1)=1 lots(7,5,10,2)=6",
            "law(0,0) 4*thing(0,0,1,5,1) lots(15,10,10,1)=3 lots(15,10,10,2)=12 lots(15,5,15,1)=1 lots(15,5,15,2)=14",
            // Not the fewest in it: 3 things as bits 7 are less than 2 as bits 9.
            "law(0,0) thing(0,0,1,4,1) thing(0,0,1,1,1) thing(0,0,1,1,1) thing(0,0,1,2,1) thing(0,0,1,4,1)"
                + " lots(31,6,6,1)=7 lots(31,6,6,2)=24");
        b.said("then the LOT with the first one of the others, and so on.",
            "law(0,0) thing(0,0,1,6,1) 4*thing(0,0,1,3,1) lots(31,6,6,0)=3 lots(31,6,6,1)=1 lots(31,6,6,2)=6"
                + " lots(31,6,6,3)=24",
            "law(0,0) 6*thing(0,0,1,3,1) lots(63,6,6,1)=3 lots(63,6,6,2)=12 lots(63,6,6,3)=48 lots(63,6,6,4)=NONE",
            // With gaps: lots are by their least things, the others' first one is 2.
            "law(0,0) 8*thing(0,0,1,3,1) lots(165,6,6,1)=5 lots(165,6,6,2)=160 lots(165,3,3,3)=32"
                + " lots(165,3,3,4)=128");
    }

    private static void law(Book b) {
        b.section("Promise 24");
        b.said("MONTHS of a KIND: what they were.",
            "law(0,1)=12 law(1,2)=12 law(2,3)=12 law(3,4)=12 law(0,0)=1 law(1,0)=2 law(2,0)=3 law(3,60)=4"
                + " law(3,60)=60");
        b.said("BEYOND.",
            "law(-1,0)=BEYOND law(4,0)=BEYOND law(MIN,0)=BEYOND law(MAX,0)=BEYOND law(0,-1)=BEYOND law(0,61)=BEYOND"
                + " law(0,MIN)=BEYOND law(0,MAX)=BEYOND found(1)=8 law(0,0)=12 law(0,60)=0 law(3,60)=12");
    }

    private static void sellable(Book b) {
        b.section("Promise 25");
        b.said("THINGS that may be SOLD now, as bits.",
            "sellable()=0 thing(0,0,1,0,1) sellable()=0 law(0,0) sellable()=1 thing(3,0,1,0,1) sellable()=1"
                + " thing(0,0,1,0,1) sellable()=5 law(3,0) sellable()=7 law(0,1) sellable()=2 day(30) sellable()=7",
            "law(0,0) 20*thing(0,0,1,0,1) sellable()=1048575 sell(1048574,0) sellable()=1 sell(1,0) sellable()=0");
    }

    private static void sell(Book b) {
        b.section("Promise 26");
        b.said("A SALE of a set of THINGS: what is left over when SHARES are cut.",
            "law(0,0) 3*thing(0,0,1,1,1) sell(7,9)=0",
            "law(0,0) 3*thing(0,0,1,1,1) sell(7,10)=1",
            "law(0,0) 3*thing(0,0,1,1,1) sell(7,11)=2",
            "law(0,0) 3*thing(0,0,1,1,1) sell(5,11)=1 about(0,4)=2 about(1,4)=0 about(2,4)=2 sell(2,3)=0 count(3)=3",
            "law(0,0) thing(0,0,1,3,1) sell(1,100000)=0 sold(0)=100000");
        b.said("BEYOND: a bit of no THING,",
            "sell(1,0)=BEYOND law(0,0) thing(0,0,1,0,1) sell(2,0)=BEYOND sell(3,0)=BEYOND sell(-1,0)=BEYOND"
                + " sell(MIN,0)=BEYOND sell(MAX,0)=BEYOND sell(-2147483647,0)=BEYOND count(3)=0 sell(1,0)=0",
            "law(0,0) 20*thing(0,0,1,0,1) sell(1048576,0)=BEYOND sell(1048577,0)=BEYOND sell(2097151,0)=BEYOND"
                + " count(3)=0 sell(1048575,0)=0");
        b.said("no bit,",
            "sell(0,0)=BEYOND law(0,0) thing(0,0,1,0,1) sell(0,0)=BEYOND sell(0,100)=BEYOND sell(1,100)=0");
        b.said("or sum.",
            "law(0,0) thing(0,0,1,0,1) sell(1,-1)=BEYOND sell(1,100001)=BEYOND sell(1,MIN)=BEYOND sell(1,MAX)=BEYOND"
                + " about(0,4)=0 found(1)=4 sell(1,100000)=0",
            "law(0,0) thing(0,0,1,0,1) sell(1,0)=0");
        b.said("STATE: one may not be SOLD.",
            "law(0,0) 3*thing(0,0,1,1,1) thing(1,0,1,1,1) thing(3,0,1,1,1) seeker(0) answer(0,2,1) sell(8,1)=STATE"
                + " sell(9,1)=STATE sell(16,1)=STATE sell(17,1)=STATE sell(5,1)=STATE sell(1,1)=0 sell(1,1)=STATE"
                + " sell(3,1)=STATE about(1,4)=0 sell(2,1)=0 found(3)=7");
    }

    private static void sold(Book b) {
        b.section("Promise 27");
        b.said("SHARE of a SOLD THING.",
            "law(0,0) 3*thing(0,0,1,1,7) seeker(0) sell(3,5)=1 sold(0)=3 sold(1)=2 owed(0,0,7)=3 sold(0)=3"
                + " sell(4,100000) sold(2)=100000 sold(0)=3 day(9999) sold(0)=3");
        b.said("BEYOND.",
            "sold(0)=BEYOND law(0,0) thing(0,0,1,1,7) sell(1,1) sold(0)=1 sold(1)=BEYOND sold(-1)=BEYOND"
                + " sold(MIN)=BEYOND sold(MAX)=BEYOND found(1)=5");
        b.said("STATE: it isn't SOLD.",
            "thing(0,0,1,1,7) thing(2,0,1,1,7) thing(0,0,1,1,7) seeker(0) sold(0)=STATE answer(0,2,7) sold(2)=STATE"
                + " day(3)=1 sold(1)=STATE found(3)=3");
    }

    private static void owed(Book b) {
        b.section("Promise 28");
        b.said("OWED is paid to a SEEKER: how much.",
            "law(0,0) 2*thing(0,0,1,1,7) 2*seeker(0) sell(3,50) owed(1,0,7)=23 count(10)=23 owed(0,1,7)=23"
                + " count(10)=46 about(0,4)=2 about(0,5)=-1 seen(1,3)=0 seen(1,1)=0",
            // Neither words nor the day lost count here.
            "law(0,0) thing(0,0,9,1,7) seeker(9999) span(0,1,1) word(0,0,9) sell(1,50) owed(0,0,7)=45",
            "law(0,0) 20*thing(0,0,1,1,7) seeker(0) sell(1,100000) sell(2,100000) owed(0,0,7)=90000 owed(0,1,7)=90000"
                + " count(10)=180000");
        b.said("BEYOND: there is no such one, or secret isn't 1 .. 9999.",
            "owed(0,0,1)=BEYOND law(0,0) thing(0,0,1,1,7) sell(1,50) owed(0,0,7)=BEYOND seeker(0) owed(1,0,7)=BEYOND"
                + " owed(-1,0,7)=BEYOND owed(MIN,0,7)=BEYOND owed(MAX,0,7)=BEYOND owed(0,1,7)=BEYOND"
                + " owed(0,-1,7)=BEYOND owed(0,MIN,7)=BEYOND owed(0,MAX,7)=BEYOND owed(0,0,0)=BEYOND"
                + " owed(0,0,-1)=BEYOND owed(0,0,10000)=BEYOND owed(0,0,MIN)=BEYOND owed(0,0,MAX)=BEYOND seen(0,1)=0"
                + " found(1)=15 owed(0,0,1)=NONE owed(0,0,9999)=NONE seen(0,1)=2 owed(0,0,7)=45");
        b.said("STATE: it isn't SOLD,",
            "thing(0,0,1,1,7) thing(2,0,1,1,7) seeker(0) owed(0,0,7)=STATE owed(0,0,8)=STATE answer(0,0,7)"
                + " owed(0,0,7)=STATE day(3)=1 owed(0,1,7)=STATE owed(0,1,8)=STATE seen(0,1)=0 found(3)=5");
        b.said("was paid,",
            "law(0,0) thing(0,0,1,1,7) 2*seeker(0) sell(1,50) owed(0,0,7)=45 owed(0,0,7)=STATE owed(1,0,7)=STATE"
                + " owed(1,0,8)=STATE seen(1,1)=0 count(10)=45");
        b.said("the DAY is too late,",
            "law(0,0) 3*thing(0,0,1,1,7) seeker(0) sell(3,40) day(1095) owed(0,0,7)=18 day(1096) owed(0,1,7)=STATE"
                + " owed(0,1,8)=STATE seen(0,1)=0 sell(4,10) owed(0,2,7)=9 day(9999) owed(0,1,7)=STATE",
            // From the sale on, not from the day found; a claim on the last day there is.
            "day(8904) law(0,0) thing(0,0,1,1,7) seeker(0) sell(1,40) day(9999) owed(0,0,7)=36",
            "day(8903) law(0,0) thing(0,0,1,1,7) seeker(0) sell(1,40) day(9999) owed(0,0,7)=STATE");
        b.said("or the SEEKER is BARRED.",
            "law(0,0) 2*thing(0,0,1,1,7) 2*seeker(0) sell(1,50) 2*answer(0,1,8)=0 owed(0,0,8)=NONE owed(0,0,7)=STATE"
                + " owed(0,0,8)=STATE seen(0,1)=3 owed(1,0,7)=45",
            "law(0,0) 2*thing(0,0,1,1,7) seeker(0) sell(1,50) 2*answer(0,1,8)=0 owed(0,0,7)=45");
        b.said("NONE: it isn't the SECRET (FALSE is one more, as of answer()).",
            "law(0,0) 2*thing(0,0,1,1,7) 2*seeker(0) sell(1,50) owed(0,0,6)=NONE seen(0,1)=1 owed(0,0,8)=NONE"
                + " seen(0,1)=2 seen(0,2)=0 likeness(0,1)=3 owed(0,0,8)=NONE seen(0,1)=3 seen(0,2)=1 likeness(0,1)=0"
                + " answer(0,1,7)=STATE seen(1,1)=0 found(2)=3 count(10)=0 owed(1,0,7)=45",
            // The third false one may be told to answer().
            "law(0,0) 2*thing(0,0,1,1,7) seeker(0) sell(1,50) 2*owed(0,0,8)=NONE answer(0,1,8)=0 seen(0,2)=1"
                + " owed(0,0,7)=STATE");
    }

    private static void lots(Book b) {
        b.section("Promise 29");
        b.said("LOTS: what 0 how many,",
            "law(0,0) 3*thing(0,0,1,5,1) lots(7,5,5,0)=3 lots(7,5,10,0)=2 lots(7,5,15,0)=1 lots(1,5,15,0)=1"
                + " count(3)=0 sellable()=7");
        b.said("1 + i: LOT i (from 0 on, by their least THINGS) as bits.",
            "law(0,0) 3*thing(0,0,1,5,1) lots(7,5,5,1)=1 lots(7,5,5,2)=2 lots(7,5,5,3)=4 lots(7,15,15,1)=7",
            "law(0,0) 20*thing(0,0,1,5,1) lots(524289,5,5,1)=1 lots(524289,5,5,2)=524288 lots(524289,10,10,1)=524289",
            "law(0,0) 10*thing(0,0,1,5,1) lots(1023,5,5,0)=10 lots(1023,5,5,10)=512 lots(1023,5,5,11)=NONE");
        b.said("BEYOND: a bit of no THING,",
            "lots(1,0,0,0)=BEYOND law(0,0) thing(0,0,1,0,1) lots(2,0,0,0)=BEYOND lots(3,0,0,0)=BEYOND"
                + " lots(-1,0,0,0)=BEYOND lots(MIN,0,0,0)=BEYOND lots(MAX,0,0,0)=BEYOND lots(1,0,0,0)=1",
            "law(0,0) 20*thing(0,0,1,0,1) lots(1048576,0,0,0)=BEYOND lots(524288,0,0,1)=524288");
        b.said("low, high (0 .. 100000, low not above high),",
            "law(0,0) thing(0,0,1,5,1) lots(1,-1,9,0)=BEYOND lots(1,0,9,0)=1 lots(1,0,100001,0)=BEYOND"
                + " lots(1,0,100000,0)=1 lots(1,6,5,0)=BEYOND lots(1,5,5,0)=1 lots(1,100000,100000,0)=NONE"
                + " lots(1,100001,100001,0)=BEYOND lots(1,MIN,5,0)=BEYOND lots(1,5,MIN,0)=BEYOND"
                + " lots(1,MAX,MAX,0)=BEYOND lots(1,0,MAX,0)=BEYOND lots(1,100000,99999,0)=BEYOND"
                + " lots(1,MIN,MAX,0)=BEYOND lots(1,0,-1,0)=BEYOND");
        b.said("or what below 0.",
            "law(0,0) thing(0,0,1,5,1) lots(1,0,9,-1)=BEYOND lots(1,0,9,MIN)=BEYOND lots(1,0,9,0)=1 found(1)=2");
        b.said("STATE: no bit,",
            "lots(0,0,0,0)=STATE law(0,0) thing(0,0,1,5,1) lots(0,0,0,0)=STATE lots(0,0,9,1)=STATE found(3)=3");
        b.said("more than 10,",
            "law(0,0) 20*thing(0,0,1,5,1) lots(1023,0,50,0)=1 lots(2047,0,55,0)=STATE lots(1047552,0,50,0)=1"
                + " lots(1048575,0,100000,0)=STATE");
        b.said("or one may not be SOLD.",
            "law(0,0) 4*thing(0,0,1,5,1) thing(1,0,1,5,1) thing(3,0,1,5,1) seeker(0) answer(0,0,1) sell(2,0)"
                + " lots(1,0,9,0)=STATE lots(2,0,9,0)=STATE lots(16,0,9,0)=STATE lots(32,0,9,0)=STATE"
                + " lots(5,0,99,0)=STATE lots(12,0,99,0)=1 lots(44,0,99,0)=STATE law(3,0) lots(44,0,99,0)=1");
        b.said("NONE: they can't be parted so,",
            "law(0,0) 2*thing(0,0,1,5,1) lots(3,6,9,0)=NONE lots(3,6,9,1)=NONE lots(3,11,99,0)=NONE"
                + " lots(3,0,4,0)=NONE lots(3,6,10,0)=1");
        b.said("or there is no such LOT.",
            "law(0,0) 2*thing(0,0,1,5,1) lots(3,5,5,2)=2 lots(3,5,5,3)=NONE lots(3,5,5,MAX)=NONE lots(3,10,10,1)=3"
                + " lots(3,10,10,2)=NONE found(2)=3");
    }
}
