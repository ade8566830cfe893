/** Each bound in head 6 and in promises 32 to 34: a TRIAL, its OUTCOMES, THE DOUBT and whether it HELPED. */
public final class EdgeTrialTest {
    private static final Probe P = new Probe();

    public static void main(String[] args) {
        childrenThatAreThere();
        drawnOfIt();
        insteadOfTheOneBefore();
        outcomes0To999();
        missing();
        outcomeOfTheTrial();
        notBelow();
        thoseWithOutcomes();
        soManyAsWereDrawn();
        howManyWays();
        twentyTimesNotAbove();
        doubtBounds();
        noTrialYet();
        P.close("EdgeTrialTest");
    }

    private static void some(int children) {
        P.fresh();
        P.x.village(1, 0);
        for (int i = 0; i < children; i++) {
            P.x.child(0, 0, 0, -1);
        }
    }

    private static void tell(int all, int drawn, int... outcomes) {
        some(outcomes.length);
        P.x.trial(all, drawn);
        for (int c = 0; c < outcomes.length; c++) {
            P.x.outcome(c, outcomes[c]);
        }
    }

    private static void dueDoubt(String of, int good, int ways, int helped) {
        P.due("doubt(0) of " + of, P.x.doubt(0), good);
        P.due("doubt(1) of " + of, P.x.doubt(1), ways);
        P.due("doubt(2) of " + of, P.x.doubt(2), helped);
    }

    /** "CHILDREN (bits)": "false: no such ones". */
    private static void childrenThatAreThere() {
        for (int n = 0; n <= 16; n++) {
            some(n);
            P.due("trial of all " + n, P.x.trial((1 << n) - 1, 0), true);
            P.due("trial of one more than " + n, P.x.trial(1 << n, 0), false);
            P.due("trial of all and one more", P.x.trial((1 << n + 1) - 1, 0), false);
            P.due("trial of none", P.x.trial(0, 0), true);
        }
        for (int bits : new int[] {-1, 1 << 16, 1 << 30, Integer.MIN_VALUE, Integer.MAX_VALUE}) {
            P.due("trial(" + bits + ", 0)", P.x.trial(bits, 0), false);
        }
    }

    /** "some (bits) were drawn": "one drawn that is not of it". */
    private static void drawnOfIt() {
        some(5);
        P.due("trial(20, 20)", P.x.trial(20, 20), true);
        P.due("trial(20, 4)", P.x.trial(20, 4), true);
        P.due("trial(20, 0)", P.x.trial(20, 0), true);
        for (int drawn : new int[] {1, 5, 21, 8, 32, -1, Integer.MIN_VALUE, Integer.MAX_VALUE}) {
            P.due("trial(20, " + drawn + ")", P.x.trial(20, drawn), false);
        }
    }

    /** "(instead of the one before; OUTCOMES are missing)"; a refused one is none. */
    private static void insteadOfTheOneBefore() {
        tell(3, 1, 9, 1);
        dueDoubt("two", 1, 2, 0);
        P.due("trial(3, 4)", P.x.trial(3, 4), false);
        dueDoubt("the one before", 1, 2, 0);
        P.due("trial(3, 1)", P.x.trial(3, 1), true);
        dueDoubt("none told", 1, 1, 0);
        P.x.outcome(1, 5);
        dueDoubt("one told", 1, 1, 0);
        P.due("trial(1, 1)", P.x.trial(1, 1), true);
        P.due("outcome(1, 5), not of it now", P.x.outcome(1, 5), false);
        P.due("outcome(0, 5)", P.x.outcome(0, 5), true);
    }

    /** "OUTCOMES (0 to 999)". */
    private static void outcomes0To999() {
        some(2);
        P.x.trial(3, 1);
        for (int n : new int[] {-2, 1000, Integer.MIN_VALUE, Integer.MAX_VALUE}) {
            P.due("outcome(0, " + n + ")", P.x.outcome(0, n), false);
        }
        dueDoubt("none told", 1, 1, 0);
        P.due("outcome(0, 0)", P.x.outcome(0, 0), true);
        P.due("outcome(1, 999)", P.x.outcome(1, 999), true);
        dueDoubt("0 of 0 and 999", 2, 2, 0);
        P.due("outcome(0, 999)", P.x.outcome(0, 999), true);
        P.due("outcome(1, 998)", P.x.outcome(1, 998), true);
        dueDoubt("999 of 999 and 998", 1, 2, 0);
    }

    /** "or are missing": NONE takes one back, and it can be told anew. */
    private static void missing() {
        tell(7, 1, 5, 5, 5);
        dueDoubt("three", 3, 3, 0);
        P.due("outcome(2, NONE)", P.x.outcome(2, -1), true);
        dueDoubt("two", 2, 2, 0);
        P.due("outcome(2, NONE) again", P.x.outcome(2, -1), true);
        P.due("outcome(2, 4)", P.x.outcome(2, 4), true);
        dueDoubt("three again", 2, 3, 0);
    }

    /** "An OUTCOME of CHILD c of the TRIAL": "false: no such ones". */
    private static void outcomeOfTheTrial() {
        some(16);
        P.x.trial(1 << 15 | 1, 1);
        for (int c : new int[] {-1, 1, 14, 16, 17, 31, 32, Integer.MIN_VALUE, Integer.MAX_VALUE}) {
            P.due("outcome(" + c + ", 5)", P.x.outcome(c, 5), false);
            P.due("outcome(" + c + ", NONE)", P.x.outcome(c, -1), false);
        }
        P.due("outcome(0, 5)", P.x.outcome(0, 5), true);
        P.due("outcome(15, 5)", P.x.outcome(15, 5), true);
        dueDoubt("the two", 2, 2, 0);
    }

    /** "a sum of OUTCOMES not below that of those that were": as much counts, one less does not. */
    private static void notBelow() {
        tell(7, 1, 5, 5, 4);
        dueDoubt("5 of 5 5 4", 2, 3, 0);
        tell(7, 1, 5, 6, 4);
        dueDoubt("5 of 5 6 4", 2, 3, 0);
        tell(15, 3, 4, 4, 5, 3);
        // 8 of 8 9 7 9 7 8
        dueDoubt("4 and 4 of 4 4 5 3", 4, 6, 0);
        tell(15, 12, 4, 4, 5, 3);
        dueDoubt("5 and 3 of 4 4 5 3", 4, 6, 0);
    }

    /** "of those with OUTCOMES": one that is missing is neither drawn nor not. */
    private static void thoseWithOutcomes() {
        tell(15, 3, 9, -1, 5, 5);
        dueDoubt("9 of 9 5 5", 1, 3, 0);
        tell(15, 3, 9, 9, -1, -1);
        dueDoubt("both of two", 1, 1, 0);
        tell(15, 3, -1, -1, 5, 5);
        dueDoubt("none of two", 1, 1, 0);
        tell(15, 3, -1, -1, -1, -1);
        dueDoubt("none of none", 1, 1, 0);
        // not of the TRIAL: what is told of it is refused
        tell(7, 3, 9, 1, 5, 8);
        dueDoubt("9 and 1 of 9 1 5", 2, 3, 0);
    }

    /** "of all ways to draw so many of them as were drawn": none, one less than all, all. */
    private static void soManyAsWereDrawn() {
        tell(31, 0, 1, 2, 3, 4, 5);
        dueDoubt("none", 1, 1, 0);
        tell(31, 31, 1, 2, 3, 4, 5);
        dueDoubt("all", 1, 1, 0);
        tell(31, 30, 1, 2, 3, 4, 5);
        dueDoubt("all but the least", 1, 5, 0);
        tell(31, 15, 1, 2, 3, 4, 5);
        dueDoubt("all but the greatest", 5, 5, 0);
        tell(31, 16, 1, 2, 3, 4, 5);
        dueDoubt("the greatest", 1, 5, 0);
    }

    /** Of 16 CHILDREN as many ways as there are: 16 over each number. */
    private static void howManyWays() {
        int[] ways = {1, 16, 120, 560, 1820, 4368, 8008, 11440, 12870, 11440, 8008, 4368, 1820, 560, 120, 16, 1};
        int[] like = new int[16];
        int[] rising = new int[16];
        for (int c = 0; c < 16; c++) {
            like[c] = 999;
            rising[c] = 984 + c;
        }
        for (int n = 0; n <= 16; n++) {
            tell(65535, (1 << n) - 1, like);
            dueDoubt(n + " of like ones", ways[n], ways[n], 0);
            tell(65535, 65535 & ~((1 << 16 - n) - 1), rising);
            dueDoubt("the best " + n, 1, ways[n], ways[n] >= 20 ? 1 : 0);
        }
    }

    /** "It HELPED if twenty times the former is not above the latter": 1 of 20 and of 21, 2 of 20, 1 of 15. */
    private static void twentyTimesNotAbove() {
        tell(63, 7, 9, 8, 7, 6, 5, 4);
        dueDoubt("the best three of six", 1, 20, 1);
        tell(63, 7, 9, 8, 7, 7, 5, 4);
        dueDoubt("two ways of 20", 2, 20, 0);
        tell(127, 3, 9, 8, 7, 6, 5, 4, 3);
        dueDoubt("the best two of seven", 1, 21, 1);
        tell(63, 3, 9, 8, 7, 6, 5, 4);
        dueDoubt("the best two of six", 1, 15, 0);
        // of 252 ways 12 are few enough, 13 are not
        tell(1023, 527, 900, 900, 900, 3, 2, 2, 2, 1, 0, 0);
        dueDoubt("five of ten, 12 ways", 12, 252, 1);
        tell(1023, 527, 900, 900, 900, 3, 2, 2, 1, 1, 1, 0);
        dueDoubt("five of ten, 13 ways", 13, 252, 0);
        tell(16383, 1, 9, 8, 7, 6, 5, 4, 3, 2, 1, 1, 1, 1, 1, 1);
        dueDoubt("one of 14", 1, 14, 0);
    }

    /** "what 0 .. 2 ... NONE for others." */
    private static void doubtBounds() {
        tell(3, 1, 5, 4);
        for (int what : new int[] {-1, 3, Integer.MIN_VALUE, Integer.MAX_VALUE}) {
            P.due("doubt(" + what + ")", P.x.doubt(what), -1);
        }
        dueDoubt("two", 1, 2, 0);
    }

    /** Ahead of any TRIAL none is of it: no OUTCOME is taken, and there is one way to draw none of none. */
    private static void noTrialYet() {
        some(2);
        P.due("outcome(0, 5)", P.x.outcome(0, 5), false);
        P.due("outcome(0, NONE)", P.x.outcome(0, -1), false);
        dueDoubt("nothing", 1, 1, 0);
        P.due("trial(4, 0)", P.x.trial(4, 0), false);
        P.due("outcome(0, 5)", P.x.outcome(0, 5), false);
    }
}
