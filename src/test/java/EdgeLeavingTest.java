/** Each bound in head 5 and in promises 26 to 29: LEAVINGS, what is KNOWN of them, AMISS and SILENT. */
public final class EdgeLeavingTest {
    private static final Probe P = new Probe();

    public static void main(String[] args) {
        leavesOnDays0To3599();
        leavesOfAChild();
        hundredTellings();
        toldLastByADay();
        twoOnOneDay();
        leftBounds();
        pairEndsWhenADayIsTold();
        hasNotLeftEndsNothing();
        endsThePairThatIsOpen();
        notAheadOfThatDay();
        amissAsKnown();
        amissOfTheChild();
        amissOfWhatCameAlone();
        amissBounds();
        silentSinceItBegan();
        silentSinceALetterCame();
        silentByTheGiverAlone();
        silentOfAnOpenPair();
        P.close("EdgeLeavingTest");
    }

    /** "on a DAY (0 to 3599), or that it has not left". */
    private static void leavesOnDays0To3599() {
        for (int day : new int[] {-2, 3600, Integer.MIN_VALUE, Integer.MAX_VALUE}) {
            P.onePair();
            P.due("leaves(0, " + day + ")", P.x.leaves(0, day), false);
            P.due("count(15)", P.x.count(15), 0);
            P.due("of(0, 3)", P.x.of(0, 3), -1);
        }
        for (int day : new int[] {-1, 0, 3599}) {
            P.onePair();
            P.due("leaves(0, " + day + ")", P.x.leaves(0, day), true);
            P.due("left(0, 0)", P.x.left(0, 0), day);
            P.due("count(15)", P.x.count(15), 1);
        }
    }

    /** "false: no such ones". */
    private static void leavesOfAChild() {
        P.onePair();
        P.due("leaves(-1, 0)", P.x.leaves(-1, 0), false);
        P.due("leaves(1, 0)", P.x.leaves(1, 0), false);
        P.due("leaves(0, 0)", P.x.leaves(0, 0), true);
        P.fresh();
        P.due("leaves(0, 0) of none", P.x.leaves(0, 0), false);
    }

    /** "(100 tellings at most)": of all CHILDREN together, those that it has not left too. */
    private static void hundredTellings() {
        P.onePair();
        P.x.child(0, 0, 0, -1);
        P.x.child(0, 0, 0, -1);
        for (int i = 0; i < 100; i++) {
            P.due("leaves " + i, P.x.leaves(1 + i % 2, i % 3 == 0 ? -1 : i), true);
        }
        P.due("leaves 100", P.x.leaves(0, 0), false);
        P.due("leaves 100, it has not", P.x.leaves(2, -1), false);
        P.due("count(15)", P.x.count(15), 100);
        P.due("of(0, 3)", P.x.of(0, 3), -1);
        P.due("left(0, 0)", P.x.left(0, 0), -1);
        P.due("left(1, 0), the 99th", P.x.left(1, 0), 98);
        P.due("left(2, 0), the 100th", P.x.left(2, 0), -1);
    }

    /** "what was told last by a DAY is KNOWN on it": on the DAY itself, not on the one ahead. */
    private static void toldLastByADay() {
        P.onePair();
        P.days(10);
        P.x.leaves(0, 7);
        P.days(10);
        P.x.leaves(0, 30);
        P.days(10);
        P.x.leaves(0, -1);
        int[][] rows = {{0, -1}, {9, -1}, {10, 7}, {19, 7}, {20, 30}, {29, 30}, {30, -1}, {31, -1}, {3599, -1}};
        for (int[] row : rows) {
            P.due("left(0, " + row[0] + ")", P.x.left(0, row[0]), row[1]);
        }
        P.x.leaves(0, 5);
        P.due("left(0, 3599)", P.x.left(0, 3599), 5);
        P.due("left(0, 30)", P.x.left(0, 30), 5);
        P.due("left(0, 29)", P.x.left(0, 29), 30);
    }

    /** Of two on one DAY the later one. */
    private static void twoOnOneDay() {
        P.onePair();
        P.x.day();
        P.x.leaves(0, 9);
        P.x.leaves(0, 4);
        P.due("left(0, 1)", P.x.left(0, 1), 4);
        P.x.leaves(0, -1);
        P.due("left(0, 1)", P.x.left(0, 1), -1);
        P.due("left(0, 0)", P.x.left(0, 0), -1);
    }

    /** "NONE: it has not, nothing was told, no such ones": CHILDREN that are there, DAYS 0 to 3599. */
    private static void leftBounds() {
        P.onePair();
        P.x.child(0, 0, 0, -1);
        P.x.leaves(0, 8);
        P.due("left(0, 0)", P.x.left(0, 0), 8);
        P.due("left(0, 3599)", P.x.left(0, 3599), 8);
        P.due("left(0, 3600)", P.x.left(0, 3600), -1);
        P.due("left(0, -1)", P.x.left(0, -1), -1);
        P.due("left(-1, 0)", P.x.left(-1, 0), -1);
        P.due("left(2, 0)", P.x.left(2, 0), -1);
        P.due("left(1, 0), nothing was told", P.x.left(1, 0), -1);
        P.due("left(0, least)", P.x.left(0, Integer.MIN_VALUE), -1);
        P.due("left(0, most)", P.x.left(0, Integer.MAX_VALUE), -1);
    }

    /** "When a DAY is told its PAIR ENDS": on that DAY of telling, though the DAY told is another. */
    private static void pairEndsWhenADayIsTold() {
        for (int day : new int[] {0, 5, 6, 3599}) {
            P.onePair();
            P.days(5);
            P.x.leaves(0, day);
            P.due("of(0, 3) with DAY " + day, P.x.of(0, 3), 5);
            P.due("count(5)", P.x.count(5), 0);
            P.due("gift(0, 5)", P.x.gift(0, 5), -1);
        }
    }

    /** That it has not left ENDS nothing, and brings nothing back. */
    private static void hasNotLeftEndsNothing() {
        P.onePair();
        P.x.leaves(0, -1);
        P.due("of(0, 3)", P.x.of(0, 3), -1);
        P.x.leaves(0, 3);
        P.due("of(0, 3)", P.x.of(0, 3), 0);
        P.x.day();
        P.x.leaves(0, -1);
        P.due("of(0, 3)", P.x.of(0, 3), 0);
        P.due("count(5)", P.x.count(5), 0);
    }

    /** The PAIR that is open ENDS, not one that has ENDED, and not that of another CHILD. */
    private static void endsThePairThatIsOpen() {
        P.onePair();
        P.x.child(0, 0, 0, -1);
        P.x.pair(0, 1);
        P.x.end(0);
        P.x.day();
        P.x.pair(0, 0);
        P.x.day();
        P.x.leaves(0, 1);
        P.due("of(0, 3)", P.x.of(0, 3), 0);
        P.due("of(1, 3)", P.x.of(1, 3), -1);
        P.due("of(2, 3)", P.x.of(2, 3), 2);
        P.x.day();
        P.due("leaves again, in no PAIR", P.x.leaves(0, 2), true);
        P.due("of(2, 3)", P.x.of(2, 3), 2);
    }

    /** "LETTERS that CAME on a DAY that is not ahead of that on which their CHILD left". */
    private static void notAheadOfThatDay() {
        int[][] rows = {{0, 1}, {2, 1}, {3, 1}, {4, 0}, {3599, 0}, {-1, 0}};
        for (int[] row : rows) {
            P.onePair();
            P.letter(0, 0, 1, "a");
            P.days(5);
            P.due("about(0, 4)", P.x.about(0, 4), 3);
            P.x.leaves(0, row[0]);
            P.due("amiss with " + row[0], P.x.amiss(5), row[1]);
        }
    }

    /** "AMISS as KNOWN on a DAY". */
    private static void amissAsKnown() {
        P.onePair();
        P.letter(0, 0, 1, "a");
        P.days(5);
        P.x.leaves(0, 4);
        P.days(5);
        P.x.leaves(0, 3);
        P.days(5);
        P.x.leaves(0, -1);
        int[][] rows = {{0, 0}, {5, 0}, {9, 0}, {10, 1}, {14, 1}, {15, 0}, {3599, 0}};
        for (int[] row : rows) {
            P.due("amiss(" + row[0] + ")", P.x.amiss(row[0]), row[1]);
        }
    }

    /** "their CHILD": of both writers, of all its PAIRS, not of another CHILD. */
    private static void amissOfTheChild() {
        P.onePair();
        P.x.child(0, 0, 0, -1);
        P.x.pair(0, 1);
        P.x.giver(0);
        P.letter(0, 0, 1, "a");
        P.letter(0, 1, 1, "a");
        P.letter(1, 0, 1, "a");
        P.days(3);
        P.x.end(0);
        P.x.pair(1, 0);
        P.letter(2, 0, 1, "a");
        P.days(3);
        P.due("count(26)", P.x.count(26), 4);
        P.x.leaves(0, 1);
        P.due("amiss(6)", P.x.amiss(6), 3);
        P.x.leaves(0, 4);
        P.due("amiss(6)", P.x.amiss(6), 1);
        P.x.leaves(1, 3);
        P.due("amiss(6)", P.x.amiss(6), 2);
    }

    /** Those that are BACK, LOST or on their WAY did not COME. */
    private static void amissOfWhatCameAlone() {
        P.onePair();
        P.rules("r:r;h:h");
        P.letter(0, 0, 1, "r");
        P.letter(0, 0, 1, "h");
        P.letter(0, 0, 1, "a");
        P.x.day();
        P.letter(0, 0, 1, "lost");
        P.x.day();
        P.x.lose(1);
        P.letter(0, 0, 1, "late");
        P.x.day();
        P.letter(0, 0, 1, "waits");
        P.x.leaves(0, 0);
        P.due("amiss(3)", P.x.amiss(3), 1);
        P.days(10);
        P.due("amiss(13)", P.x.amiss(13), 1);
    }

    /** "NONE: no such DAY". */
    private static void amissBounds() {
        P.fresh();
        for (int day : new int[] {-1, 3600, Integer.MIN_VALUE, Integer.MAX_VALUE}) {
            P.due("amiss(" + day + ")", P.x.amiss(day), -1);
        }
        P.due("amiss(0)", P.x.amiss(0), 0);
        P.due("amiss(3599)", P.x.amiss(3599), 0);
    }

    /** "(none came: that in which the PAIR began)": from its last DAY on, and from its first. */
    private static void silentSinceItBegan() {
        P.onePair();
        P.x.child(0, 0, 0, -1);
        P.days(29);
        P.x.pair(0, 1);
        P.due("silent(1) on DAY 29", P.x.silent(1), 0);
        P.x.day();
        P.due("silent(1) on DAY 30", P.x.silent(1), 1);
        P.due("silent(0) on DAY 30", P.x.silent(0), 1);
        P.x.end(1);
        P.x.pair(0, 1);
        P.due("silent(2) on DAY 30", P.x.silent(2), 0);
        P.days(29);
        P.due("silent(2) on DAY 59", P.x.silent(2), 0);
        P.x.day();
        P.due("silent(2) on DAY 60", P.x.silent(2), 1);
        P.days(360);
        P.due("silent(0) on DAY 420", P.x.silent(0), 14);
    }

    /** "that in which a LETTER of the GIVER last CAME": on the last DAY of a MONTH, on the first. */
    private static void silentSinceALetterCame() {
        P.onePair();
        P.days(26);
        P.letter(0, 0, 1, "a");
        P.days(3);
        P.due("about(0, 4)", P.x.about(0, 4), 29);
        P.days(31);
        P.due("silent(0) on DAY 60", P.x.silent(0), 2);
        P.onePair();
        P.days(27);
        P.letter(0, 0, 1, "a");
        P.days(3);
        P.due("about(0, 4)", P.x.about(0, 4), 30);
        P.due("silent(0) on DAY 30", P.x.silent(0), 0);
        P.days(30);
        P.due("silent(0) on DAY 60", P.x.silent(0), 1);
        P.letter(0, 0, 1, "a");
        P.days(2);
        P.due("silent(0) ahead of it", P.x.silent(0), 1);
        P.x.day();
        P.due("silent(0) when it CAME", P.x.silent(0), 0);
    }

    /** "a LETTER of the GIVER": not one of the CHILD, not one that did not COME. */
    private static void silentByTheGiverAlone() {
        P.onePair();
        P.rules("r:r;h:h");
        P.days(57);
        P.letter(0, 1, 1, "a");
        P.letter(0, 0, 1, "r");
        P.letter(0, 0, 1, "h");
        P.days(3);
        P.due("about(0, 0)", P.x.about(0, 0), 6);
        P.due("silent(0)", P.x.silent(0), 2);
        P.x.decide(2, true);
        P.due("silent(0), on its WAY", P.x.silent(0), 2);
        P.x.day();
        P.due("silent(0), COME", P.x.silent(0), 0);
    }

    /** "NONE: no such PAIR, ENDED". */
    private static void silentOfAnOpenPair() {
        P.onePair();
        P.due("silent(-1)", P.x.silent(-1), -1);
        P.due("silent(1)", P.x.silent(1), -1);
        P.due("silent(0)", P.x.silent(0), 0);
        P.x.end(0);
        P.due("silent(0), ENDED", P.x.silent(0), -1);
    }
}
