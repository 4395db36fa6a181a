/** Sorters, money and bursts: parts 4 to 6 of the terms, and promises 30 to 34. */
final class SaidOfSorters {
    static void tell(Book b) {
        sortedOfTerms(b);
        moneyOfTerms(b);
        burstOfTerms(b);
        sorted(b);
        sorter(b);
        money(b);
        counted(b);
        burst(b);
    }

    private static void sortedOfTerms(Book b) {
        b.section("Terms 4");
        b.said("SORTED, at most 60 records:",
            "59*sorted(0,0) sorted(1,1)=60 sorted(1,1)=FULL count(8)=60 sorter(1,0)=1 sorter(0,0)=59");
        b.said("a MACHINE (0 .. 5), TORN or not.",
            "sorted(-1,0)=BEYOND sorted(6,0)=BEYOND sorted(0,-1)=BEYOND sorted(0,2)=BEYOND count(8)=0 sorted(0,0)=1"
                + " sorted(5,1)=2 sorted(5,0)=3 sorter(0,0)=1 sorter(0,1)=0 sorter(5,0)=2 sorter(5,1)=1"
                + " sorter(4,0)=0");
        b.said("With N records, K of them TORN, n of the MACHINE's, x of these TORN: BEYOND CHANCE if the ways to"
                + " choose n records of N such that x or more of them are TORN are at most a twentieth of all ways to"
                + " choose n of N",
            // One torn of 19, 20 and 21 records: 1 way of so many.
            "sorted(0,1) 18*sorted(1,0) sorter(0,2)=0 sorted(1,0) sorter(0,2)=1 sorted(1,0) sorter(0,2)=1",
            // All 3 of 6 are torn: 1 of 20 ways; with a fourth one torn elsewhere 4 of 35.
            "3*sorted(0,1) 3*sorted(1,0) sorter(0,2)=1 sorted(1,1) sorter(0,2)=0",
            "3*sorted(0,1) 2*sorted(1,0) sorter(0,2)=0",
            // x or more: 2 of 5 and of 20 are 816 of 15504 ways; of 21 they are 969 of 20349.
            "2*sorted(0,1) 3*sorted(0,0) 15*sorted(1,0) sorter(0,2)=0 sorted(1,0) sorter(0,2)=1",
            // 3 of 4 torn of 8, where 4 are: 16 and 1 of 70; 4 of 4: 1 of 70.
            "3*sorted(0,1) sorted(0,0) sorted(1,1) 3*sorted(1,0) sorter(0,2)=0",
            "4*sorted(0,1) 4*sorted(1,0) sorter(0,2)=1",
            // The most there can be: half of 60, and as many as chance would have it, a little and much more.
            "15*sorted(0,1) 15*sorted(0,0) 15*sorted(1,1) 15*sorted(1,0) sorter(0,2)=0 sorter(1,2)=0",
            "18*sorted(0,1) 12*sorted(0,0) 12*sorted(1,1) 18*sorted(1,0) sorter(0,2)=0 sorter(1,2)=0",
            "19*sorted(0,1) 11*sorted(0,0) 11*sorted(1,1) 19*sorted(1,0) sorter(0,2)=1 sorter(1,2)=0",
            "30*sorted(0,1) 30*sorted(1,0) sorter(0,2)=1 sorter(1,2)=0",
            // All records are the machine's: all ways are one.
            "60*sorted(0,1) sorter(0,2)=0",
            "sorted(0,1) sorter(0,2)=0",
            "59*sorted(0,1) sorted(1,0) sorter(0,2)=1",
            // The one record that isn't torn is another's: 1 of 19 ways, and of 20.
            "18*sorted(0,1) sorted(1,0) sorter(0,2)=0 sorted(0,1) sorter(0,2)=1");
        b.said("(and x is above 0).",
            "30*sorted(0,0) 30*sorted(1,0) sorter(0,2)=0 sorter(2,2)=0",
            "sorter(0,2)=0",
            "20*sorted(0,0) 20*sorted(1,1) sorter(0,2)=0 sorter(1,2)=1");
    }

    private static void moneyOfTerms(Book b) {
        b.section("Terms 5");
        b.said("MONEY in a PURSE: HANDS 0 .. 3 count it,",
            "thing(3,0,1,0,1) money(0,-1,5)=BEYOND money(0,4,5)=BEYOND money(0,0,5)=1 money(0,1,6)=2 money(0,2,7)=3"
                + " money(0,3,8)=4",
            "thing(0,0,1,0,1) thing(1,0,1,0,1) thing(2,0,1,0,1) money(0,0,5)=KIND money(1,0,5)=KIND"
                + " money(2,0,5)=KIND");
        b.said("each as often as they like:",
            "thing(3,0,1,0,1) 30*money(0,2,5)=1 money(0,2,6)=1 counted(0)=NONE money(0,1,6)=2 counted(0)=6");
        b.said("what each counted last holds.",
            "thing(3,0,1,0,1) money(0,0,5) money(0,1,5) counted(0)=5 money(0,1,6) counted(0)=NONE money(0,0,6)"
                + " counted(0)=6 money(0,0,5) counted(0)=NONE");
        b.said("COUNTED is what two HANDS or more have counted last,",
            "thing(3,0,1,0,1) counted(0)=NONE money(0,0,5) counted(0)=NONE money(0,3,5) counted(0)=5 money(0,1,5)"
                + " counted(0)=5 money(0,2,5) counted(0)=5",
            "thing(3,0,1,0,1) money(0,1,0) counted(0)=NONE money(0,2,0) counted(0)=0",
            "thing(3,0,1,0,1) money(0,0,100000) money(0,2,100000) counted(0)=100000");
        b.said("and no other number by as many;",
            "thing(3,0,1,0,1) money(0,0,5) money(0,1,5) money(0,2,6) counted(0)=5 money(0,3,7) counted(0)=5"
                + " money(0,3,6) counted(0)=NONE money(0,0,6) counted(0)=6 money(0,1,0) counted(0)=6",
            "thing(3,0,1,0,1) money(0,0,0) money(0,1,9) money(0,2,0) money(0,3,9) counted(0)=NONE money(0,3,0)"
                + " counted(0)=0");
        b.said("else it isn't COUNTED.",
            "thing(3,0,1,0,1) money(0,0,1) money(0,1,2) money(0,2,3) money(0,3,4) counted(0)=NONE money(0,3,1)"
                + " counted(0)=1");
    }

    private static void burstOfTerms(Book b) {
        b.section("Terms 6");
        b.said("A BURST: of some KEPT THINGS, told as bits,",
            "thing(0,0,10,0,1) thing(0,0,20,0,1) thing(0,0,40,0,1) seeker(0) burst(7,60,0)=6 burst(3,60,0)=NONE"
                + " burst(6,60,0)=6 answer(0,0,1) burst(7,60,0)=STATE burst(6,60,0)=6 back(0) burst(7,60,0)=6",
            "law(0,0) thing(0,0,10,0,1) thing(2,0,10,0,1) thing(0,0,10,0,1) sell(1,0) burst(1,10,0)=STATE day(3)=1"
                + " burst(2,10,0)=STATE burst(7,10,0)=STATE burst(4,10,0)=4",
            // Letters and purses burst, too.
            "thing(1,0,10,0,1) thing(3,0,20,0,1) burst(3,30,0)=3");
        b.said("those that weigh together a told number, at most so much more or less:",
            "thing(0,0,100,0,1) burst(1,100,0)=1 burst(1,101,0)=NONE burst(1,99,0)=NONE burst(1,101,1)=1"
                + " burst(1,99,1)=1 burst(1,102,1)=NONE burst(1,98,1)=NONE burst(1,1,98)=NONE burst(1,1,99)=1"
                + " burst(1,1100,1000)=1 burst(1,1101,1000)=NONE",
            "14*thing(0,0,5000,0,1) burst(16383,70000,0)=16383 burst(16383,71000,1000)=16383"
                + " burst(16383,71001,1000)=NONE burst(16383,100000,1000)=NONE");
        b.said("the nearest to it,",
            "thing(0,0,10,0,1) thing(0,0,13,0,1) burst(3,11,5)=1 burst(3,12,5)=2 burst(3,17,9)=2 burst(3,18,9)=2"
                + " burst(3,19,9)=3 burst(3,16,7)=2",
            // Nearer by 1 with three than with one.
            "thing(0,0,8,0,1) thing(0,0,3,0,1) thing(0,0,3,0,1) thing(0,0,3,0,1) burst(15,9,1)=14 burst(15,9,0)=14"
                + " burst(15,8,1)=1");
        b.said("of several the fewest,",
            "thing(0,0,10,0,1) thing(0,0,20,0,1) thing(0,0,30,0,1) burst(7,30,0)=4 burst(7,31,1)=4 burst(3,30,0)=3",
            // As near above as below: 2 of 24 and 1 of 20 are both off by 2.
            "thing(0,0,4,0,1) thing(0,0,20,0,1) burst(3,22,2)=2",
            "thing(0,0,12,0,1) thing(0,0,8,0,1) thing(0,0,24,0,1) burst(7,22,2)=4");
        b.said("of several those less as bits",
            "4*thing(0,0,10,0,1) burst(15,10,0)=1 burst(14,10,0)=2 burst(15,20,0)=3 burst(13,20,0)=5 burst(15,30,0)=7",
            "thing(0,0,10,0,1) thing(0,0,20,0,1) burst(3,15,5)=1",
            "thing(0,0,20,0,1) thing(0,0,10,0,1) burst(3,15,5)=1",
            // 1 and 2 (bits 6) are less than 0 and 3 (bits 9).
            "thing(0,0,10,0,1) thing(0,0,20,0,1) thing(0,0,30,0,1) thing(0,0,40,0,1) burst(15,50,0)=6");
        b.said("(some at least).",
            "burst(0,1,1000)=NONE thing(0,0,9,0,1) burst(0,1,1000)=NONE burst(1,1,7)=NONE burst(1,1,8)=1"
                + " burst(1,1,1000)=1",
            "thing(0,0,3,0,1) burst(1,1,1)=NONE burst(1,1,2)=1");
    }

    private static void sorted(Book b) {
        b.section("Promise 30");
        b.said("A record: how many there are.",
            "sorted(0,0)=1 sorted(5,1)=2 sorted(0,0)=3 count(8)=3");
        b.said("BEYOND.",
            "sorted(-1,0)=BEYOND sorted(6,0)=BEYOND sorted(MIN,0)=BEYOND sorted(MAX,0)=BEYOND sorted(0,-1)=BEYOND"
                + " sorted(0,2)=BEYOND sorted(0,MIN)=BEYOND sorted(0,MAX)=BEYOND found(1)=8 count(8)=0 sorted(0,0)=1"
                + " sorted(5,0)=2 sorted(0,1)=3");
        b.said("FULL.",
            "59*sorted(3,1) sorted(3,0)=60 sorted(3,0)=FULL sorted(4,1)=FULL found(4)=2 count(8)=60 sorter(3,0)=60"
                + " sorter(3,1)=59 sorter(4,0)=0");
    }

    private static void sorter(Book b) {
        b.section("Promise 31");
        b.said("What 0 how many records of a MACHINE,",
            "sorter(0,0)=0 sorted(0,1) sorted(0,0) sorted(1,0) sorter(0,0)=2 sorter(1,0)=1 sorter(5,0)=0");
        b.said("1 how many of them TORN,",
            "sorter(0,1)=0 sorted(0,1) sorted(0,0) sorted(1,0) sorted(2,1) sorter(0,1)=1 sorter(1,1)=0 sorter(2,1)=1");
        b.said("2 1 if it is BEYOND CHANCE.",
            "sorter(0,2)=0 sorted(5,1) 19*sorted(0,0) sorter(5,2)=1 sorter(0,2)=0 sorter(1,2)=0");
        b.said("BEYOND.",
            "sorter(-1,0)=BEYOND sorter(6,0)=BEYOND sorter(MIN,0)=BEYOND sorter(MAX,0)=BEYOND sorter(0,-1)=BEYOND"
                + " sorter(0,3)=BEYOND sorter(0,MIN)=BEYOND sorter(0,MAX)=BEYOND found(1)=8 sorter(0,0)=0"
                + " sorter(5,2)=0");
    }

    private static void money(Book b) {
        b.section("Promise 32");
        b.said("A HAND counts the MONEY in a PURSE: how many HANDS have counted it.",
            "2*thing(3,0,1,0,1) money(0,3,5)=1 money(0,3,6)=1 money(0,0,5)=2 money(1,0,5)=1 money(0,1,5)=3"
                + " money(0,2,0)=4 money(0,2,1)=4");
        b.said("BEYOND: there is no such THING, hand, or money (0 .. 100000).",
            "money(0,0,0)=BEYOND thing(3,0,1,0,1) money(1,0,0)=BEYOND money(-1,0,0)=BEYOND money(MIN,0,0)=BEYOND"
                + " money(MAX,0,0)=BEYOND money(0,-1,0)=BEYOND money(0,4,0)=BEYOND money(0,MIN,0)=BEYOND"
                + " money(0,MAX,0)=BEYOND money(0,0,-1)=BEYOND money(0,0,100001)=BEYOND money(0,0,MIN)=BEYOND"
                + " money(0,0,MAX)=BEYOND found(1)=13 counted(0)=NONE money(0,0,0)=1 money(0,3,100000)=2");
        b.said("KIND: it is no PURSE.",
            "thing(0,0,1,0,1) thing(1,0,1,0,1) thing(2,0,1,0,1) thing(3,0,1,0,1) money(0,0,0)=KIND money(1,0,0)=KIND"
                + " money(2,0,0)=KIND money(3,0,0)=1 found(5)=3 day(3) money(2,0,0)=KIND");
        b.said("STATE: it isn't KEPT.",
            "law(3,0) 2*thing(3,0,1,0,1) seeker(0) money(0,0,5) money(1,0,5) answer(0,0,1) money(0,1,5)=STATE"
                + " sell(2,0) money(1,1,5)=STATE counted(0)=NONE counted(1)=NONE back(0) money(0,1,5)=2 counted(0)=5"
                + " found(3)=2");
    }

    private static void counted(Book b) {
        b.section("Promise 33");
        b.said("COUNTED.",
            "2*thing(3,0,1,0,1) money(0,0,5) money(0,1,5) counted(0)=5 counted(1)=NONE money(1,0,0) money(1,3,0)"
                + " counted(1)=0 counted(0)=5",
            // Also of one that isn't kept.
            "law(3,0) 2*thing(3,0,1,0,1) seeker(0) money(0,0,5) money(0,1,5) money(1,0,6) money(1,1,6) answer(0,0,1)"
                + " counted(0)=5 sell(2,0) counted(1)=6");
        b.said("BEYOND.",
            "counted(0)=BEYOND thing(3,0,1,0,1) counted(1)=BEYOND counted(-1)=BEYOND counted(MIN)=BEYOND"
                + " counted(MAX)=BEYOND found(1)=5");
        b.said("KIND: it is no PURSE.",
            "thing(0,0,1,0,1) thing(1,0,1,0,1) thing(2,0,1,0,1) counted(0)=KIND counted(1)=KIND counted(2)=KIND"
                + " found(5)=3");
        b.said("NONE: it isn't.",
            "thing(3,0,1,0,1) counted(0)=NONE money(0,0,0) counted(0)=NONE money(0,1,1) counted(0)=NONE found(2)=3");
    }

    private static void burst(Book b) {
        b.section("Promise 34");
        b.said("A BURST: those THINGS, as bits.",
            "20*thing(0,0,7,0,1) burst(524289,14,0)=524289 burst(524288,7,0)=524288 burst(786432,7,0)=262144"
                + " about(19,4)=0 count(1)=20");
        b.said("BEYOND: a bit of no THING,",
            "burst(1,1,0)=BEYOND thing(0,0,1,0,1) burst(2,1,0)=BEYOND burst(3,1,0)=BEYOND burst(-1,1,0)=BEYOND"
                + " burst(MIN,1,0)=BEYOND burst(MAX,1,0)=BEYOND burst(1,1,0)=1",
            "20*thing(0,0,1,0,1) burst(1048576,1,0)=BEYOND burst(524288,1,0)=524288");
        b.said("weight isn't 1 .. 100000,",
            "thing(0,0,1,0,1) burst(1,0,1)=BEYOND burst(1,-1,9)=BEYOND burst(1,1,0)=1 burst(1,100000,0)=NONE"
                + " burst(1,100001,0)=BEYOND burst(1,MIN,0)=BEYOND burst(1,MAX,0)=BEYOND found(1)=5");
        b.said("or more isn't 0 .. 1000.",
            "thing(0,0,1,0,1) burst(1,1,-1)=BEYOND burst(1,1,0)=1 burst(1,1001,1000)=1 burst(1,1002,1000)=NONE"
                + " burst(1,1,1001)=BEYOND burst(1,1,MIN)=BEYOND burst(1,1,MAX)=BEYOND found(1)=4");
        b.said("STATE: more than 14,",
            "20*thing(0,0,1,0,1) burst(16383,14,0)=16383 burst(32767,15,0)=STATE burst(1048575,1,0)=STATE"
                + " burst(1048512,14,0)=1048512 burst(1048544,15,0)=STATE");
        b.said("or one isn't KEPT.",
            "law(0,0) 3*thing(0,0,1,0,1) thing(2,0,1,0,1) seeker(0) answer(0,0,1) sell(2,0) burst(1,1,0)=STATE"
                + " burst(2,1,0)=STATE burst(8,1,0)=8 day(3)=1 burst(8,1,0)=STATE burst(12,1,0)=STATE burst(4,1,0)=4"
                + " found(3)=4");
        b.said("NONE: there are none such.",
            "thing(0,0,5,0,1) burst(1,6,0)=NONE burst(0,5,0)=NONE burst(0,5,1000)=NONE burst(1,100000,1000)=NONE"
                + " burst(1,6,1)=1 found(2)=4");
    }
}
