/** What the document says of findings, ahead of the numbers of its terms. */
final class SaidOfFindings {
    static void tell(Book b) {
        b.section("Terms 0");
        b.said("FINDINGS are answers below -1000000: LOW is -1000000; LOW - 1 BEYOND, LOW - 2 NONE, LOW - 3 STATE,"
                + " LOW - 4 FULL, LOW - 5 KIND.",
            "count(11)=-1000001",
            "seeker(0) match(0)=-1000002",
            "thing(0,0,1,0,1) back(0)=-1000003",
            "20*tell(0) tell(0)=-1000004",
            "thing(0,0,1,0,1) as(0,3)=-1000005");
        order(b);
        nothingChanges(b);
        b.said("Quotients are cut.",
            "thing(0,0,1,0,1) seeker(0) word(0,0,1) points(0,5) likeness(0,0)=1",
            "thing(0,0,1,0,1) 3*seeker(0) chance(0,0)=333 word(0,0,0) chance(0,0)=731 chance(1,0)=134",
            "address(1,1) address(1,2) share(0,1,10)=333 share(1,1,10)=666",
            "law(0,0) 3*thing(0,0,1,1,1) sell(7,11)=2 sold(2)=3",
            "law(0,0) thing(0,0,1,1,1) sell(1,19)=0 seeker(0) owed(0,0,1)=18");
    }

    private static void order(Book b) {
        b.said("Each act tells its findings in the order in which they are asked;",
            "20*thing(0,0,1,0,1) thing(4,0,1,0,1)=BEYOND thing(0,1,1,0,1)=BEYOND thing(0,0,0,0,1)=BEYOND"
                + " thing(0,0,1,-1,1)=BEYOND thing(0,0,1,0,0)=BEYOND thing(0,0,1,0,1)=FULL found(1)=5 found(4)=1",
            "thing(1,0,1,0,1) as(0,4)=BEYOND as(0,-1)=BEYOND as(1,2)=BEYOND as(0,2)=KIND found(5)=1",
            "8*seeker(0) seeker(-1)=BEYOND seeker(10000)=BEYOND seeker(0)=FULL",
            "seeker(0) match(1)=BEYOND match(-2)=BEYOND match(0)=NONE",
            // Given, barred and without likeness, each with a secret or a number that isn't one.
            "thing(0,0,1,0,1) seeker(0) answer(0,0,1)=1 answer(0,0,0)=BEYOND answer(0,0,10000)=BEYOND"
                + " answer(1,0,1)=BEYOND answer(0,1,1)=BEYOND answer(0,0,1)=STATE answer(0,0,2)=STATE seen(0,1)=0",
            "thing(0,0,1,0,1) seeker(0) 3*answer(0,0,2)=0 answer(0,0,0)=BEYOND answer(0,1,1)=BEYOND"
                + " answer(0,0,1)=STATE",
            "thing(0,0,1,0,1) seeker(1) answer(0,0,0)=BEYOND answer(0,0,1)=STATE",
            "16*address(1,0) address(10,0)=BEYOND address(0,0)=BEYOND address(1,1001)=BEYOND address(1,0)=FULL",
            "likely(10,10,0)=BEYOND likely(0,9,0)=BEYOND likely(0,10,-1)=BEYOND likely(0,10,0)=NONE",
            "address(1,0) share(1,2,10)=BEYOND share(0,10,10)=BEYOND share(0,2,14)=BEYOND share(0,2,10)=NONE",
            "thing(0,0,1,0,1) sell(1,-1)=BEYOND sell(1,100001)=BEYOND sell(3,0)=BEYOND sell(0,0)=BEYOND"
                + " sell(1,0)=STATE",
            // A false secret for what isn't sold, was paid, is too late, or by the barred: STATE, and no FALSE.
            "thing(0,0,1,0,1) seeker(0) owed(0,0,0)=BEYOND owed(0,0,2)=STATE seen(0,1)=0",
            "thing(0,0,1,0,1) law(0,0) seeker(0) sell(1,5)=0 owed(0,0,1)=5 owed(0,0,0)=BEYOND owed(0,0,2)=STATE"
                + " seen(0,1)=0",
            "thing(0,0,1,0,1) law(0,0) seeker(0) sell(1,5)=0 day(1096) owed(0,0,0)=BEYOND owed(0,0,2)=STATE"
                + " seen(0,1)=0",
            "thing(0,0,1,0,1) law(0,0) seeker(0) sell(1,5)=0 3*owed(0,0,2)=NONE owed(0,0,0)=BEYOND owed(0,0,2)=STATE"
                + " seen(0,1)=3",
            "thing(0,0,1,0,1) law(0,0) seeker(0) sell(1,5)=0 owed(0,0,0)=BEYOND owed(0,1,2)=BEYOND owed(1,0,2)=BEYOND"
                + " seen(0,1)=0 owed(0,0,2)=NONE seen(0,1)=1",
            "thing(0,0,1,9,1) lots(0,1,0,0)=BEYOND lots(0,0,0,-1)=BEYOND lots(2,0,0,0)=BEYOND lots(1,0,0,-1)=BEYOND"
                + " lots(1,0,100001,0)=BEYOND lots(0,0,0,0)=STATE lots(1,0,8,0)=STATE lots(1,0,9,9)=STATE law(0,0)"
                + " lots(1,0,8,0)=NONE lots(1,0,9,2)=NONE lots(1,0,9,1)=1",
            "60*sorted(0,0) sorted(6,0)=BEYOND sorted(0,2)=BEYOND sorted(0,0)=FULL",
            "thing(0,0,1,0,1) thing(3,0,1,0,1) seeker(0) answer(0,0,1) answer(0,1,1) money(0,4,0)=BEYOND"
                + " money(0,0,100001)=BEYOND money(0,0,0)=KIND money(1,4,0)=BEYOND money(1,0,-1)=BEYOND"
                + " money(2,0,0)=BEYOND money(1,0,0)=STATE",
            "thing(0,0,1,0,1) counted(1)=BEYOND counted(0)=KIND thing(3,0,1,0,1) counted(1)=NONE",
            "15*thing(0,0,9,0,1) burst(32767,0,0)=BEYOND burst(32767,1,1001)=BEYOND burst(32768,1,0)=BEYOND"
                + " burst(32767,1,0)=STATE burst(16383,1,0)=NONE",
            "2*thing(0,0,9,0,1) seeker(0) answer(0,0,1) burst(3,0,0)=BEYOND burst(7,1,0)=BEYOND burst(3,1,0)=STATE"
                + " burst(2,1,0)=NONE");
    }

    private static void nothingChanges(Book b) {
        b.said("one that answers a finding changes nothing but what found() tells.",
            "thing(0,0,1,0,0)=BEYOND count(0)=0 thing(0,0,1,0,1)=0 trait(0,0,7)=0 trait(0,0,16)=BEYOND about(0,6)=7",
            "day(5) day(4)=BEYOND day(10000)=BEYOND count(7)=5 spoil(7)=3 spoil(31)=BEYOND spoil(7)=7",
            "thing(2,0,1,0,1) spoil(30) day(3)=0 spoil(3) day(2)=BEYOND day(10000)=BEYOND about(0,4)=0 day(3)=1",
            "seeker(4) seeker(10000)=BEYOND count(5)=1 word(0,0,3)=-1 word(0,0,16)=BEYOND word(0,0,3)=3",
            "thing(0,0,9,0,1) seeker(0) span(0,10,20)=1 likeness(0,0)=0 span(0,0,20)=BEYOND span(0,1,5001)=BEYOND"
                + " span(0,9,8)=BEYOND likeness(0,0)=0 points(0,6)=4 points(0,21)=BEYOND points(0,6)=6",
            "thing(0,0,1,0,5) seeker(0) answer(0,0,0)=BEYOND answer(0,0,10000)=BEYOND answer(1,0,5)=BEYOND"
                + " about(0,4)=0 about(0,5)=-1 seen(0,1)=0 seen(0,3)=0 answer(0,0,5)=1 answer(0,0,5)=STATE"
                + " seen(0,3)=1",
            "thing(0,0,1,0,5) seeker(0) answer(0,0,5)=1 day(11) back(0)=STATE about(0,4)=1 about(0,5)=0 known(0,11)=1",
            "address(1,7) address(10,7)=BEYOND address(1,1001)=BEYOND count(6)=1 post(0,1001)=BEYOND post(0,7)=7",
            "law(0,5)=12 law(0,61)=BEYOND law(4,1)=BEYOND law(0,5)=5",
            "law(0,0) 2*thing(0,0,1,0,1) law(0,1) thing(3,0,1,0,1) law(3,0) sell(5,10)=STATE sell(12,10)=BEYOND"
                + " sell(4,100001)=BEYOND count(3)=0 about(2,4)=0 sellable()=4 sold(2)=STATE",
            "law(0,0) thing(0,0,1,0,1) seeker(0) sell(1,9)=0 owed(0,0,0)=BEYOND owed(0,0,2)=NONE count(10)=0"
                + " owed(0,0,1)=9 owed(0,0,1)=STATE count(10)=9 sold(0)=9",
            "sorted(6,1)=BEYOND sorted(0,2)=BEYOND count(8)=0 sorter(0,0)=0 60*sorted(0,1) sorted(0,1)=FULL"
                + " count(8)=60 sorter(0,0)=60 sorter(0,1)=60",
            "thing(3,0,1,0,1) money(0,0,5)=1 money(0,1,100001)=BEYOND money(0,4,5)=BEYOND money(0,0,-1)=BEYOND"
                + " money(0,1,5)=2 counted(0)=5 seeker(0) answer(0,0,1) money(0,2,6)=STATE money(0,1,6)=STATE"
                + " counted(0)=5",
            "20*tell(-1) tell(5)=FULL count(9)=20 check()=1",
            "found(0)=BEYOND found(6)=BEYOND found(1)=2 found(2)=0 found(3)=0 found(4)=0 found(5)=0");
    }
}
