/** Promises 32 to 34: a TRIAL, its OUTCOMES and THE DOUBT. */
public final class TrialTest {
    private static final Probe P = new Probe();

    public static void main(String[] args) {
        beforeAny();
        trials();
        outcomes();
        doubts();
        missing();
        helped();
        sixteen();
        P.close("TrialTest");
    }

    private static void some(int children) {
        P.fresh();
        P.x.village(1, 0);
        for (int i = 0; i < children; i++) {
            P.x.child(0, 0, 0, -1);
        }
    }

    private static void dueDoubt(int good, int ways, int helped) {
        P.due("doubt(0)", P.x.doubt(0), good);
        P.due("doubt(1)", P.x.doubt(1), ways);
        P.due("doubt(2)", P.x.doubt(2), helped);
    }

    private static void beforeAny() {
        some(2);
        P.due("outcome(0, 5)", P.x.outcome(0, 5), false);
        dueDoubt(1, 1, 0);
        P.due("doubt(-1)", P.x.doubt(-1), -1);
        P.due("doubt(3)", P.x.doubt(3), -1);
    }

    private static void trials() {
        some(3);
        P.due("trial(8, 0)", P.x.trial(8, 0), false);
        P.due("trial(15, 1)", P.x.trial(15, 1), false);
        P.due("trial(3, 4)", P.x.trial(3, 4), false);
        P.due("trial(3, 7)", P.x.trial(3, 7), false);
        P.due("trial(-1, 0)", P.x.trial(-1, 0), false);
        P.due("trial(-1, -1)", P.x.trial(-1, -1), false);
        P.due("trial(7, -1)", P.x.trial(7, -1), false);
        P.due("trial(7, MIN)", P.x.trial(7, Integer.MIN_VALUE), false);
        P.due("trial(MIN, 0)", P.x.trial(Integer.MIN_VALUE, 0), false);
        P.due("outcome(0, 5)", P.x.outcome(0, 5), false);
        P.due("trial(7, 7)", P.x.trial(7, 7), true);
        P.due("trial(0, 0)", P.x.trial(0, 0), true);
        P.due("trial(5, 4)", P.x.trial(5, 4), true);
        // a refused one leaves what is
        P.x.outcome(0, 3);
        P.x.outcome(2, 4);
        P.due("trial(8, 0)", P.x.trial(8, 0), false);
        dueDoubt(1, 2, 0);
        // a new one starts anew
        P.due("trial(5, 4)", P.x.trial(5, 4), true);
        dueDoubt(1, 1, 0);
        P.x.outcome(2, 4);
        dueDoubt(1, 1, 0);
        P.x.outcome(0, 4);
        dueDoubt(2, 2, 0);
    }

    private static void outcomes() {
        some(4);
        P.x.trial(5, 1);
        P.due("outcome(1, 5)", P.x.outcome(1, 5), false);
        P.due("outcome(3, 5)", P.x.outcome(3, 5), false);
        P.due("outcome(4, 5)", P.x.outcome(4, 5), false);
        P.due("outcome(-1, 5)", P.x.outcome(-1, 5), false);
        P.due("outcome(32, 5)", P.x.outcome(32, 5), false);
        P.due("outcome(MIN, 5)", P.x.outcome(Integer.MIN_VALUE, 5), false);
        P.due("outcome(0, -2)", P.x.outcome(0, -2), false);
        P.due("outcome(0, 1000)", P.x.outcome(0, 1000), false);
        P.due("outcome(0, -1)", P.x.outcome(0, -1), true);
        P.due("outcome(0, 999)", P.x.outcome(0, 999), true);
        P.due("outcome(2, 0)", P.x.outcome(2, 0), true);
        dueDoubt(1, 2, 0);
        P.x.outcome(0, 0);
        dueDoubt(2, 2, 0);
    }

    private static void doubts() {
        some(5);
        P.x.trial(31, 3);
        int[] told = {5, 3, 4, 4, 1};
        for (int c = 0; c < 5; c++) {
            P.x.outcome(c, told[c]);
        }
        // of ten twos: 5 3, 5 4, 5 4, 4 4 are not below 8
        dueDoubt(4, 10, 0);
        P.x.outcome(4, 9);
        dueDoubt(8, 10, 0);
        P.x.trial(31, 0);
        for (int c = 0; c < 5; c++) {
            P.x.outcome(c, told[c]);
        }
        dueDoubt(1, 1, 0);
        P.x.trial(31, 31);
        for (int c = 0; c < 5; c++) {
            P.x.outcome(c, told[c]);
        }
        dueDoubt(1, 1, 0);
    }

    private static void missing() {
        some(4);
        P.x.trial(15, 3);
        P.x.outcome(0, 7);
        P.x.outcome(2, 6);
        P.x.outcome(3, 8);
        // one alone of those drawn is told
        dueDoubt(2, 3, 0);
        P.x.outcome(1, 1);
        dueDoubt(5, 6, 0);
        P.x.outcome(0, -1);
        dueDoubt(3, 3, 0);
        P.x.outcome(1, -1);
        dueDoubt(1, 1, 0);
    }

    private static void helped() {
        // one of 20 ways: it helped; one of 15: it did not
        some(6);
        P.x.trial(63, 7);
        for (int c = 0; c < 6; c++) {
            P.x.outcome(c, 10 - c);
        }
        dueDoubt(1, 20, 1);
        P.x.outcome(3, 8);
        dueDoubt(2, 20, 0);
        P.x.trial(63, 3);
        for (int c = 0; c < 6; c++) {
            P.x.outcome(c, 10 - c);
        }
        dueDoubt(1, 15, 0);
    }

    private static void sixteen() {
        some(16);
        P.due("trial(65536, 0)", P.x.trial(65536, 0), false);
        P.due("trial(65535, 255)", P.x.trial(65535, 255), true);
        for (int c = 0; c < 16; c++) {
            P.due("outcome", P.x.outcome(c, 999), true);
        }
        P.due("outcome(16, 1)", P.x.outcome(16, 1), false);
        dueDoubt(12870, 12870, 0);
        P.x.outcome(15, 998);
        P.x.outcome(14, 998);
        dueDoubt(3003, 12870, 0);
        for (int c = 8; c < 16; c++) {
            P.x.outcome(c, 0);
        }
        dueDoubt(1, 12870, 1);
    }
}
