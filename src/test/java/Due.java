/** Collects the calls of a test whose answer is not the one that is due. */
final class Due {
    static final int BEYOND = -1000001;
    static final int NONE = -1000002;
    static final int STATE = -1000003;
    static final int FULL = -1000004;
    static final int KIND = -1000005;

    private int calls = 0;
    private int wrong = 0;

    void is(int promise, String call, long got, long want) {
        calls++;
        if (got != want) {
            wrong++;
            System.out.println("promise " + promise + ": " + call + " answered " + got + ", due is " + want);
        }
    }

    void end() {
        System.out.println(calls + " calls, " + wrong + " wrong");
        if (wrong != 0) {
            System.exit(1);
        }
    }
}
