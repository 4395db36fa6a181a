/** Addresses and labels: the terms' second part, and promises 19 to 23. */
final class SaidOfAddresses {
    static void tell(Book b) {
        b.section("Terms 2");
        words(b);
        labels(b);
        fitting(b);
        address(b);
        post(b);
        fits(b);
        likely(b);
        share(b);
    }

    private static void words(Book b) {
        b.said("ADDRESSES 0, 1, .. (at most 16):",
            "address(1,0)=0 address(1,0)=1 13*address(2,0) count(6)=15 address(3,9)=15 address(4,0)=FULL count(6)=16"
                + " post(15,9)=9 post(16,0)=BEYOND likely(4,10,0)=NONE likely(3,10,0)=15");
        b.said("a word of 1 .. 8 letters 1 .. 9 (told as a number of these digits),",
            "address(0,0)=BEYOND address(1,0)=0 address(9,0)=1 address(10,0)=BEYOND address(11,0)=2"
                + " address(99999999,0)=3 address(100000000,0)=BEYOND address(111111111,0)=BEYOND"
                + " address(-1,0)=BEYOND address(MIN,0)=BEYOND address(MAX,0)=BEYOND count(6)=4",
            "address(11111110,0)=BEYOND address(11111101,0)=BEYOND address(11111011,0)=BEYOND"
                + " address(11110111,0)=BEYOND address(11101111,0)=BEYOND address(11011111,0)=BEYOND"
                + " address(10111111,0)=BEYOND address(11111111,0)=0 address(101,0)=BEYOND address(110,0)=BEYOND"
                + " address(111,0)=1");
        b.said("with POST (0 .. 1000).",
            "address(1,-1)=BEYOND address(1,0)=0 address(1,1000)=1 address(1,1001)=BEYOND address(1,MIN)=BEYOND"
                + " address(1,MAX)=BEYOND count(6)=2 post(0,1000)=0 post(1,0)=1000 post(0,1001)=BEYOND"
                + " post(0,-1)=BEYOND post(0,5)=1000");
    }

    private static void labels(Book b) {
        b.said("A LABEL has 1 .. 8 places,",
            "address(7,0) address(12345678,0) fits(0,7,10)=1 fits(1,12345678,80)=1 fits(0,0,0)=BEYOND"
                + " fits(0,0,3)=BEYOND fits(1,0,90)=BEYOND fits(1,0,93)=BEYOND fits(0,7,11)=1 fits(1,12345678,83)=1"
                + " fits(1,0,100)=BEYOND fits(0,0,-10)=BEYOND");
        b.said("each a letter or a hole (told as a number of so many digits, 0 is a hole; leading ones, too),",
            "address(123,0) fits(0,123,30)=1 fits(0,103,30)=1 fits(0,23,30)=1 fits(0,3,30)=1 fits(0,0,30)=1"
                + " fits(0,120,30)=1 fits(0,100,30)=1 fits(0,20,30)=1 fits(0,32,30)=0 fits(0,2,30)=0 fits(0,10,30)=0"
                + " fits(0,200,30)=0",
            "address(123,0) fits(0,999,30)=0 fits(0,1000,30)=BEYOND fits(0,1000,40)=0 fits(0,9,10)=0"
                + " fits(0,10,10)=BEYOND fits(0,99999999,80)=0 fits(0,100000000,80)=BEYOND");
        b.said("and is TORN: 0 not, 1 behind its end, 2 ahead of its begin, 3 both.",
            "address(123,0) fits(0,123,30)=1 fits(0,123,31)=1 fits(0,123,32)=1 fits(0,123,33)=1 fits(0,123,34)=BEYOND"
                + " fits(0,123,39)=BEYOND fits(0,123,29)=BEYOND",
            "address(123,0) fits(0,12,20)=0 fits(0,12,21)=1 fits(0,12,22)=0 fits(0,12,23)=1",
            "address(123,0) fits(0,23,20)=0 fits(0,23,21)=0 fits(0,23,22)=1 fits(0,23,23)=1",
            "address(123,0) fits(0,2,10)=0 fits(0,2,11)=0 fits(0,2,12)=0 fits(0,2,13)=1");
    }

    private static void fitting(Book b) {
        b.said("It FITS a word if its places, one beside another, can lie on letters of the word so that each that is"
                + " no hole is that letter,",
            // A hole lies on a letter: it is no end of the word.
            "address(12,0) fits(0,120,33)=0 fits(0,12,33)=0 fits(0,0,33)=0 fits(0,0,23)=1 fits(0,0,13)=1",
            "address(1234,0) fits(0,204,33)=1 fits(0,24,23)=0 fits(0,13,23)=0 fits(0,103,33)=1 fits(0,1004,43)=1"
                + " fits(0,1003,43)=0",
            // The first place where it could lie is not the one where it does.
            "address(11112,0) fits(0,112,33)=1 fits(0,12,23)=1 fits(0,1112,43)=1 fits(0,212,33)=0",
            "address(98989898,0) fits(0,98,22)=1 fits(0,89,23)=1 fits(0,89,21)=0 fits(0,89,22)=0 fits(0,9090909,83)=0"
                + " fits(0,8080808,83)=1 fits(0,90909090,80)=1");
        b.said("and: no letter of the word is left over,",
            "address(11,0) fits(0,1,10)=0 fits(0,11,20)=1 fits(0,11,30)=0 fits(0,111,30)=0",
            "address(1,0) fits(0,1,10)=1 fits(0,1,20)=0",
            "address(11111111,0) fits(0,1111111,70)=0 fits(0,1111111,80)=1 fits(0,11111111,80)=1");
        b.said("but behind them if TORN behind,",
            "address(12121,0) fits(0,1,11)=1 fits(0,2,11)=0 fits(0,121,31)=1 fits(0,212,31)=0 fits(0,12121,51)=1"
                + " fits(0,1212,41)=1 fits(0,2121,41)=0 fits(0,12121,61)=0");
        b.said("ahead of them if TORN ahead.",
            "address(12122,0) fits(0,2,12)=1 fits(0,1,12)=0 fits(0,122,32)=1 fits(0,121,32)=0 fits(0,12122,52)=1"
                + " fits(0,2122,42)=1 fits(0,1212,42)=0 fits(0,12122,62)=0",
            "address(12122,0) fits(0,212,33)=1 fits(0,121,33)=1 fits(0,122,33)=1 fits(0,222,33)=0");
        b.said("LIKELY ones: ADDRESSES that a LABEL FITS, by POST, the most first,",
            "address(1,5) address(2,1000) address(1,7) address(1,6) likely(1,10,0)=2 likely(1,10,1)=3"
                + " likely(1,10,2)=0 likely(1,10,3)=NONE post(0,8) likely(1,10,0)=0 post(1,0) likely(0,10,3)=1");
        everyLength(b);
        b.said("of several the least number first.",
            "4*address(1,5) likely(1,10,0)=0 likely(1,10,1)=1 likely(1,10,2)=2 likely(1,10,3)=3 post(2,6)"
                + " likely(1,10,0)=2 likely(1,10,1)=0 likely(1,10,2)=1 likely(1,10,3)=3",
            "2*address(1,0) likely(1,10,0)=0 likely(1,10,1)=1",
            "16*address(1,1000) likely(1,10,0)=0 likely(1,10,15)=15 likely(1,10,16)=NONE");
    }

    /** Words of 1 .. 8 letters, and labels of as many holes: how they are torn says which words are likely. */
    private static void everyLength(Book b) {
        StringBuilder run = new StringBuilder();
        for (int letters = 1; letters <= 8; letters++) {
            run.append("address(" + "1".repeat(letters) + "," + letters + ") ");
        }
        for (int places = 1; places <= 8; places++) {
            run.append("likely(0," + places + "0,0)=" + (places - 1) + " likely(0," + places + "0,1)=NONE ");
            run.append("share(" + (places - 1) + ",0," + places + "0)=1000 ");
            int post = 0;
            for (int letters = places; letters <= 8; letters++) {
                post += letters;
            }
            for (int torn = 1; torn <= 3; torn++) {
                String label = "0," + places + torn;
                run.append("likely(" + label + ",0)=7 ");
                run.append("likely(" + label + "," + (8 - places) + ")=" + (places - 1) + " ");
                run.append("likely(" + label + "," + (9 - places) + ")=NONE ");
                run.append("share(7," + label + ")=" + 8000 / post + " ");
            }
        }
        b.said("LIKELY ones: ADDRESSES that a LABEL FITS, by POST,", run.toString());
    }

    private static void address(Book b) {
        b.section("Promise 19");
        b.said("An ADDRESS: its number.",
            "address(1,0)=0 address(99999999,1000)=1 address(1,0)=2",
            "address(0,0)=BEYOND address(1,0)=0");
        b.said("BEYOND: word isn't as told (1 .. 99999999, no digit 0), or post.",
            "address(0,0)=BEYOND address(-1,0)=BEYOND address(100000000,0)=BEYOND address(MIN,0)=BEYOND"
                + " address(MAX,0)=BEYOND address(10,0)=BEYOND address(20305,0)=BEYOND address(99999990,0)=BEYOND"
                + " address(90999999,0)=BEYOND address(1,-1)=BEYOND address(1,1001)=BEYOND address(1,MIN)=BEYOND"
                + " address(1,MAX)=BEYOND found(1)=13 count(6)=0 address(1,0)=0 address(1,1000)=1"
                + " address(99999999,1)=2 address(11111111,1)=3");
        b.said("FULL.",
            "15*address(12,1) address(13,1)=15 address(13,1)=FULL found(4)=1 count(6)=16 likely(13,20,1)=NONE");
    }

    private static void post(Book b) {
        b.section("Promise 20");
        b.said("POST of an ADDRESS: what it was.",
            "address(1,7) address(2,8) post(0,0)=7 post(0,1000)=0 post(1,1)=8 post(0,1000)=1000 post(0,5)=1000"
                + " post(1,1)=1",
            "2*address(1,1) share(0,1,10)=500 post(0,3) share(0,1,10)=750 share(1,1,10)=250");
        b.said("BEYOND.",
            "post(0,0)=BEYOND address(1,7) post(1,0)=BEYOND post(-1,0)=BEYOND post(MIN,0)=BEYOND post(MAX,0)=BEYOND"
                + " post(0,-1)=BEYOND post(0,1001)=BEYOND post(0,MIN)=BEYOND post(0,MAX)=BEYOND found(1)=9"
                + " post(0,0)=7 post(0,1000)=0 post(0,0)=1000",
            "16*address(1,7) post(15,1)=7 post(16,1)=BEYOND");
    }

    private static void fits(Book b) {
        b.section("Promise 21");
        b.said("1 a LABEL FITS an ADDRESS, else 0.",
            "address(12,0) address(21,0) fits(0,12,20)=1 fits(1,12,20)=0 fits(1,21,20)=1 fits(0,1,11)=1"
                + " fits(1,1,11)=0 fits(1,1,12)=1");
        b.said("torn: 10 times how many places, and how it is TORN.",
            "address(12,0) fits(0,2,10)=0 fits(0,2,11)=0 fits(0,2,12)=1 fits(0,2,13)=1 fits(0,2,20)=1 fits(0,2,21)=1"
                + " fits(0,2,22)=1 fits(0,2,23)=1 fits(0,2,30)=0 fits(0,2,33)=0");
        b.said("BEYOND: there is no such ADDRESS,",
            "fits(0,0,10)=BEYOND address(1,0) fits(0,0,10)=1 fits(1,0,10)=BEYOND fits(-1,0,10)=BEYOND"
                + " fits(MIN,0,10)=BEYOND fits(MAX,0,10)=BEYOND",
            "16*address(1,0) fits(15,1,10)=1 fits(16,1,10)=BEYOND");
        b.said("label (0 .. 99999999, not of more digits than places),",
            "address(1,0) fits(0,-1,10)=BEYOND fits(0,0,10)=1 fits(0,9,10)=0 fits(0,10,10)=BEYOND fits(0,99,20)=0"
                + " fits(0,100,20)=BEYOND fits(0,999,30)=0 fits(0,1000,30)=BEYOND fits(0,9999,40)=0"
                + " fits(0,10000,40)=BEYOND fits(0,99999,50)=0 fits(0,100000,50)=BEYOND fits(0,999999,60)=0"
                + " fits(0,1000000,60)=BEYOND fits(0,9999999,70)=0 fits(0,10000000,70)=BEYOND fits(0,99999999,80)=0"
                + " fits(0,100000000,80)=BEYOND fits(0,MAX,80)=BEYOND fits(0,MIN,80)=BEYOND fits(0,-1,80)=BEYOND");
        b.said("or torn.",
            "address(1,0) fits(0,0,9)=BEYOND fits(0,0,10)=1 fits(0,0,13)=1 fits(0,0,14)=BEYOND fits(0,0,19)=BEYOND"
                + " fits(0,0,20)=0 fits(0,0,80)=0 fits(0,0,83)=0 fits(0,0,84)=BEYOND fits(0,0,89)=BEYOND"
                + " fits(0,0,90)=BEYOND fits(0,0,0)=BEYOND fits(0,0,-1)=BEYOND fits(0,0,-10)=BEYOND"
                + " fits(0,0,-13)=BEYOND fits(0,0,MIN)=BEYOND fits(0,0,MAX)=BEYOND");
    }

    private static void likely(Book b) {
        b.section("Promise 22");
        b.said("LIKELY ADDRESS i (from 0 on) of a LABEL.",
            "address(15,3) address(25,9) address(5,9) address(51,1000) likely(5,12,0)=1 likely(5,12,1)=2"
                + " likely(5,12,2)=0",
            "address(1,0) likely(1,10,0)=0");
        b.said("BEYOND: label, torn, or i below 0.",
            "address(1,0) likely(-1,10,0)=BEYOND likely(10,10,0)=BEYOND likely(MIN,80,0)=BEYOND"
                + " likely(MAX,80,0)=BEYOND likely(100000000,80,0)=BEYOND likely(0,9,0)=BEYOND likely(0,14,0)=BEYOND"
                + " likely(0,84,0)=BEYOND likely(0,90,0)=BEYOND likely(0,MIN,0)=BEYOND likely(0,MAX,0)=BEYOND"
                + " likely(1,10,-1)=BEYOND likely(1,10,MIN)=BEYOND found(1)=13 found(2)=0 likely(1,10,0)=0"
                + " likely(9,10,0)=NONE");
        b.said("NONE.",
            "likely(0,10,0)=NONE address(1,0) likely(1,10,0)=0 likely(1,10,1)=NONE likely(1,10,MAX)=NONE"
                + " likely(2,10,0)=NONE found(2)=4");
    }

    private static void share(Book b) {
        b.section("Promise 23");
        b.said("POST of an ADDRESS times 1000 by POST of all LIKELY ones of a LABEL.",
            "address(1,1) address(1,2) address(2,1000) address(1,0) share(0,1,10)=333 share(1,1,10)=666"
                + " share(2,2,10)=1000 share(3,1,10)=0 share(2,0,10)=997 share(0,0,10)=0",
            "16*address(1,1000) share(0,1,10)=62 share(15,0,13)=62");
        b.said("BEYOND.",
            "share(0,0,10)=BEYOND address(1,5) share(0,1,10)=1000 share(1,1,10)=BEYOND share(-1,1,10)=BEYOND"
                + " share(MIN,1,10)=BEYOND share(MAX,1,10)=BEYOND share(0,-1,10)=BEYOND share(0,10,10)=BEYOND"
                + " share(0,MIN,10)=BEYOND share(0,MAX,80)=BEYOND share(0,1,9)=BEYOND share(0,1,14)=BEYOND"
                + " share(0,1,90)=BEYOND share(0,1,MIN)=BEYOND share(0,1,MAX)=BEYOND found(1)=14");
        b.said("NONE: it isn't LIKELY,",
            "address(1,5) address(2,5) share(0,2,10)=NONE share(1,1,10)=NONE share(1,2,10)=1000 share(0,1,20)=NONE");
        b.said("or that is 0.",
            "address(1,0) share(0,1,10)=NONE address(1,0) share(1,1,10)=NONE post(1,1) share(0,1,10)=0"
                + " share(1,1,10)=1000 address(2,9) post(1,0) share(0,1,10)=NONE share(0,0,10)=0");
    }
}
