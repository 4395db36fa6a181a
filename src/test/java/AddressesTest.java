/** Promises 19 to 23. */
public final class AddressesTest {
    private static final Due due = new Due();

    public static void main(String[] args) {
        address();
        post();
        fits();
        everyPlace();
        wrongLabels();
        likely();
        share();
        due.end();
    }

    private static void address() {
        LostParcels x = new LostParcels();
        int[] wrong = {0, -1, 10, 101, 10000000, 99999990, 100000000, 111111111, Integer.MAX_VALUE, Integer.MIN_VALUE};
        for (int word : wrong) {
            due.is(19, "address(" + word + ", 0)", x.address(word, 0), Due.BEYOND);
        }
        due.is(19, "address(1, -1)", x.address(1, -1), Due.BEYOND);
        due.is(19, "address(1, 1001)", x.address(1, 1001), Due.BEYOND);
        due.is(19, "address(1, 0)", x.address(1, 0), 0);
        due.is(19, "address(99999999, 1000)", x.address(99999999, 1000), 1);
        for (int i = 2; i < 16; i++) {
            due.is(19, "the same word again", x.address(1, 0), i);
        }
        due.is(19, "an address too many", x.address(1, 0), Due.FULL);
        due.is(19, "a wrong one too many", x.address(0, 0), Due.BEYOND);
        due.is(19, "count(6)", x.count(6), 16);
    }

    private static void post() {
        LostParcels x = new LostParcels();
        x.address(12, 7);
        due.is(20, "post(0, 1000)", x.post(0, 1000), 7);
        due.is(20, "post(0, 0)", x.post(0, 0), 1000);
        due.is(20, "post(0, 1001)", x.post(0, 1001), Due.BEYOND);
        due.is(20, "post(0, -1)", x.post(0, -1), Due.BEYOND);
        due.is(20, "post(1, 0)", x.post(1, 0), Due.BEYOND);
        due.is(20, "post(-1, 0)", x.post(-1, 0), Due.BEYOND);
        due.is(20, "post(0, 0)", x.post(0, 0), 0);
    }

    private static void fits() {
        LostParcels x = new LostParcels();
        x.address(1212, 0);
        x.address(12345678, 0);
        due.is(21, "all letters", x.fits(0, 1212, 40), 1);
        due.is(21, "holes", x.fits(0, 1002, 40), 1);
        due.is(21, "holes alone", x.fits(0, 0, 40), 1);
        due.is(21, "a leading hole", x.fits(0, 212, 40), 1);
        due.is(21, "another letter", x.fits(0, 1213, 40), 0);
        due.is(21, "too short", x.fits(0, 121, 30), 0);
        due.is(21, "too long", x.fits(0, 1212, 50), 0);
        due.is(21, "too long, though torn", x.fits(0, 12120, 53), 0);
        due.is(21, "behind", x.fits(0, 12, 21), 1);
        due.is(21, "ahead", x.fits(0, 12, 22), 1);
        due.is(21, "in the midst", x.fits(0, 21, 23), 1);
        due.is(21, "not at the begin", x.fits(0, 21, 21), 0);
        due.is(21, "not at the end", x.fits(0, 21, 22), 0);
        due.is(21, "both, at the begin", x.fits(1, 12, 23), 1);
        due.is(21, "both, at the end", x.fits(1, 78, 23), 1);
        due.is(21, "torn, and whole nonetheless", x.fits(0, 1212, 43), 1);
        due.is(21, "eight places", x.fits(1, 12345678, 80), 1);
        due.is(21, "eight holes", x.fits(1, 0, 80), 1);
        due.is(21, "a hole takes a letter", x.fits(1, 10, 21), 1);
        due.is(21, "a hole at the end needs one", x.fits(1, 80, 23), 0);
        due.is(21, "a hole at the begin needs one", x.fits(1, 1, 23), 0);
        due.is(21, "a hole between", x.fits(1, 406, 33), 1);
        due.is(21, "fits(2, 0, 10)", x.fits(2, 0, 10), Due.BEYOND);
        due.is(21, "fits(-1, 0, 10)", x.fits(-1, 0, 10), Due.BEYOND);
    }

    /** Labels of every length with a single letter, on words of every length. */
    private static void everyPlace() {
        LostParcels x = new LostParcels();
        String word = "";
        for (int length = 1; length <= 8; length++) {
            word += (char) ('0' + 1 + length % 9);
            due.is(19, "address(" + word + ", 1)", x.address(Integer.parseInt(word), 1), length - 1);
            for (int places = 1; places <= 8; places++) {
                for (int at = 0; at < places; at++) {
                    oneLetter(x, length, places, at);
                }
            }
        }
        for (int places = 1; places <= 8; places++) {
            due.is(22, "as long as its word", x.likely(0, 10 * places, 0), places - 1);
            for (int torn = 1; torn < 4; torn++) {
                due.is(22, "the first as long or longer", x.likely(0, 10 * places + torn, 0), places - 1);
                due.is(22, "the last of them", x.likely(0, 10 * places + torn, 8 - places), 7);
                due.is(22, "no more of them", x.likely(0, 10 * places + torn, 9 - places), Due.NONE);
                due.is(23, "one of them", x.share(7, 0, 10 * places + torn), 1000 / (9 - places));
            }
        }
    }

    private static void oneLetter(LostParcels x, int length, int places, int at) {
        int ten = 1;
        for (int i = at + 1; i < places; i++) {
            ten *= 10;
        }
        for (int letter = 1; letter <= 9; letter++) {
            // Letter n stands at place n - 2 of the word alone.
            int ahead = letter - 2 - at;
            boolean lies = letter - 2 >= 0 && letter - 2 < length && ahead >= 0 && ahead + places <= length;
            for (int torn = 0; torn < 4; torn++) {
                boolean aheadIsFine = ahead == 0 || torn >= 2;
                boolean behindIsFine = ahead + places == length || torn % 2 == 1;
                int want = lies && aheadIsFine && behindIsFine ? 1 : 0;
                String call = "fits(" + (length - 1) + ", " + ten * letter + ", " + (10 * places + torn) + ")";
                due.is(21, call, x.fits(length - 1, ten * letter, 10 * places + torn), want);
            }
        }
    }

    private static void wrongLabels() {
        LostParcels x = new LostParcels();
        x.address(1, 1);
        int[][] wrong = {
            {-1, 10}, {10, 10}, {100, 20}, {100000000, 80}, {Integer.MIN_VALUE, 80}, {Integer.MAX_VALUE, 80},
            {0, 0}, {0, 3}, {0, 9}, {0, 14}, {0, 19}, {0, 84}, {0, 90}, {0, 93}, {0, 100}, {0, -10}, {0, -21},
            {0, Integer.MAX_VALUE}, {0, Integer.MIN_VALUE}};
        for (int[] w : wrong) {
            String label = w[0] + ", " + w[1];
            due.is(21, "fits(0, " + label + ")", x.fits(0, w[0], w[1]), Due.BEYOND);
            due.is(22, "likely(" + label + ", 0)", x.likely(w[0], w[1], 0), Due.BEYOND);
            due.is(23, "share(0, " + label + ")", x.share(0, w[0], w[1]), Due.BEYOND);
        }
        due.is(21, "fits(0, 9, 10)", x.fits(0, 9, 10), 0);
        due.is(21, "fits(0, 99999999, 83)", x.fits(0, 99999999, 83), 0);
    }

    private static void likely() {
        LostParcels x = new LostParcels();
        due.is(22, "no addresses", x.likely(0, 13, 0), Due.NONE);
        x.address(15, 3);
        x.address(25, 9);
        x.address(5, 9);
        x.address(51, 1000);
        x.address(35, 4);
        int[] all = {1, 2, 4, 0};
        for (int i = 0; i < all.length; i++) {
            due.is(22, "likely " + i, x.likely(5, 12, i), all[i]);
        }
        due.is(22, "no more", x.likely(5, 12, 4), Due.NONE);
        due.is(22, "far more", x.likely(5, 12, Integer.MAX_VALUE), Due.NONE);
        due.is(22, "i below 0", x.likely(5, 12, -1), Due.BEYOND);
        due.is(22, "none fits", x.likely(9, 13, 0), Due.NONE);
        x.post(0, 10);
        due.is(22, "by post as it is now", x.likely(5, 12, 0), 0);
        due.is(22, "and the next", x.likely(5, 12, 1), 1);
    }

    private static void share() {
        LostParcels x = new LostParcels();
        x.address(15, 1);
        x.address(25, 2);
        x.address(7, 5);
        x.address(35, 0);
        x.address(8, 0);
        due.is(23, "a third, cut", x.share(0, 5, 20), 333);
        due.is(23, "two thirds, cut", x.share(1, 5, 20), 666);
        due.is(23, "it isn't likely", x.share(2, 5, 20), Due.NONE);
        due.is(23, "post 0 among others", x.share(3, 5, 20), 0);
        due.is(23, "all", x.share(2, 7, 10), 1000);
        due.is(23, "all post is 0", x.share(4, 8, 10), Due.NONE);
        due.is(23, "share(5, 8, 10)", x.share(5, 8, 10), Due.BEYOND);
        due.is(23, "share(-1, 8, 10)", x.share(-1, 8, 10), Due.BEYOND);
        for (int i = 0; i < 5; i++) {
            x.post(i, 1000);
        }
        due.is(23, "a fifth", x.share(4, 0, 13), 200);
    }
}
