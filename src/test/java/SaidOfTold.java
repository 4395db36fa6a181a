/** What is told: promises 35 to 38. */
final class SaidOfTold {
    static void tell(Book b) {
        waiting(b);
        check(b);
        count(b);
        found(b);
    }

    private static void waiting(Book b) {
        b.section("Promise 35");
        b.said("One more number waits: how many.",
            "tell(0)=1 tell(MIN)=2 tell(MAX)=3 tell(-1)=4 tell(-1000001)=5 count(9)=5 check()=1 tell(7)=1 count(9)=1");
        b.said("FULL: 20 wait.",
            "19*tell(0) tell(0)=20 tell(0)=FULL tell(MIN)=FULL count(9)=20 found(4)=2 check()=1 tell(0)=1 found(4)=2"
                + " count(9)=1",
            // What did not wait is not looked at.
            "8*thing(0,0,1,0,1) 8*seeker(0) tell(0) tell(1) tell(2) tell(3) tell(4) tell(5) tell(6) tell(7)"
                + " 12*tell(0) tell(0)=FULL check()=9");
    }

    private static void check(Book b) {
        b.section("Promise 36");
        b.said("The numbers that wait (none do then) are what SEEKERS 0, 1, .. have by THE MATCH",
            "3*thing(0,0,1,0,1) 3*seeker(0) tell(0) tell(1) tell(2) check()=0 count(9)=0 tell(1) check()=1 count(9)=0"
                + " tell(0) check()=0 count(9)=0 check()=0",
            // THE MATCH as it is by check(), not as it was when they were told.
            "thing(0,0,1,0,1) thing(0,0,2,0,1) seeker(0) tell(0) span(0,2,2) check()=1 tell(1) check()=0");
        b.said("(-1: none):",
            "thing(0,0,1,0,1) 2*seeker(0) tell(0) tell(-1) check()=0 tell(0) tell(0) check()=2 tell(0) tell(-1000002)"
                + " check()=2 tell(0) tell(20) check()=2 tell(-1) check()=1 seeker(9) tell(0) tell(-1) tell(-1)"
                + " check()=0",
            "seeker(0) tell(-1) check()=0");
        b.said("0 if they are;",
            "check()=0",
            "thing(0,0,1,0,1) seeker(0) check()=0 tell(0) check()=0",
            "2*thing(0,0,1,0,1) 2*seeker(0) tell(0) check()=0 tell(0) tell(1) check()=0",
            "20*thing(0,0,1,0,1) 8*seeker(0) tell(0) tell(1) tell(2) tell(3) tell(4) tell(5) tell(6) tell(7)"
                + " check()=0 found(2)=0");
        b.said("1 and i for the first (from 0 on) that isn't,",
            "3*thing(0,0,1,0,1) 3*seeker(0) tell(1) tell(1) tell(2) check()=1 tell(0) tell(0) tell(2) check()=2"
                + " tell(0) tell(1) tell(1) check()=3 tell(0) tell(2) tell(1) check()=2 tell(MIN) check()=1 tell(MAX)"
                + " check()=1",
            "8*thing(0,0,1,0,1) 8*seeker(0) tell(0) tell(1) tell(2) tell(3) tell(4) tell(5) tell(6) tell(8)"
                + " check()=8");
        b.said("or for which there is no SEEKER.",
            "tell(-1) check()=1 tell(0) check()=1",
            "thing(0,0,1,0,1) seeker(0) tell(0) tell(-1) check()=2 tell(1) tell(-1) check()=1",
            "8*seeker(0) 20*tell(-1) check()=9",
            "seeker(0) 20*tell(-1) check()=2");
    }

    private static void count(Book b) {
        b.section("Promise 37");
        b.said("0 THINGS, 1 KEPT, 2 GIVEN, 3 SOLD, 4 SPOILT,",
            "law(0,0) 4*thing(0,0,1,0,1) 2*thing(2,0,1,0,1) seeker(0) count(0)=6 count(1)=6 count(2)=0 count(3)=0"
                + " count(4)=0 answer(0,0,1) count(1)=5 count(2)=1 sell(6,0) count(1)=3 count(3)=2 day(3) count(1)=1"
                + " count(4)=2 count(0)=6 back(0) count(1)=2 count(2)=0",
            "20*thing(0,0,1,0,1) count(0)=20 count(1)=20");
        b.said("5 SEEKERS, 6 ADDRESSES, 7 the DAY, 8 records, 9 numbers that wait,",
            "2*seeker(0) 3*address(1,0) day(4) 5*sorted(0,0) 6*tell(0) count(5)=2 count(6)=3 count(7)=4 count(8)=5"
                + " count(9)=6 check() count(9)=0",
            "8*seeker(0) 16*address(1,0) day(9999) 60*sorted(0,0) 20*tell(0) count(5)=8 count(6)=16 count(7)=9999"
                + " count(8)=60 count(9)=20");
        b.said("10 all that was paid to SEEKERS.",
            "law(0,0) 3*thing(0,0,1,1,7) 2*seeker(0) count(10)=0 sell(7,60) count(10)=0 owed(0,0,7)=18 count(10)=18"
                + " owed(0,1,8)=NONE count(10)=18 owed(1,1,7)=18 count(10)=36 owed(1,1,7)=STATE count(10)=36"
                + " answer(0,2,7)=STATE count(10)=36");
        b.said("BEYOND: another what.",
            "count(-1)=BEYOND count(11)=BEYOND count(MIN)=BEYOND count(MAX)=BEYOND found(1)=4 count(0)=0 count(10)=0");
    }

    private static void found(Book b) {
        b.section("Promise 38");
        b.said("How many acts have answered a finding LOW - k (k 1 .. 5);",
            "found(1)=0 found(2)=0 found(3)=0 found(4)=0 found(5)=0",
            "thing(0,0,1,0,1) seeker(0) seeker(1) 2*count(11)=BEYOND 3*match(1)=NONE 4*back(0)=STATE 20*tell(0)"
                + " 5*tell(0)=FULL 6*as(0,1)=KIND found(1)=2 found(2)=3 found(3)=4 found(4)=5 found(5)=6 found(5)=6",
            // Those of every act count, each once, also the one of owed() that changes something.
            "law(0,0) thing(0,0,1,1,7) seeker(0) sell(1,0) owed(0,0,8)=NONE found(2)=1 sell(1,0)=STATE sold(1)=BEYOND"
                + " found(3)=1 found(1)=1");
        b.said("BEYOND: another k (counted, too).",
            "found(0)=BEYOND found(1)=1 found(6)=BEYOND found(1)=2 found(-1)=BEYOND found(MIN)=BEYOND"
                + " found(MAX)=BEYOND found(1)=5 found(1)=5 found(5)=0");
    }
}
