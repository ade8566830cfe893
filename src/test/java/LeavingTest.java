/** Promises 26 to 29: LEAVING, what is KNOWN of it, AMISS and SILENT. */
public final class LeavingTest {
    private static final Probe P = new Probe();

    public static void main(String[] args) {
        tellings();
        hundred();
        known();
        pairsEnd();
        amiss();
        amissOfPairs();
        silent();
        silentByLetters();
        P.close("LeavingTest");
    }

    private static void tellings() {
        P.onePair();
        P.due("leaves(1, 0)", P.x.leaves(1, 0), false);
        P.due("leaves(-1, 0)", P.x.leaves(-1, 0), false);
        P.due("leaves(0, -2)", P.x.leaves(0, -2), false);
        P.due("leaves(0, 3600)", P.x.leaves(0, 3600), false);
        P.due("count(15)", P.x.count(15), 0);
        P.due("of(0, 3)", P.x.of(0, 3), -1);
        P.due("leaves(0, 3599)", P.x.leaves(0, 3599), true);
        P.due("leaves(0, -1)", P.x.leaves(0, -1), true);
        P.due("leaves(0, 0)", P.x.leaves(0, 0), true);
        P.due("count(15)", P.x.count(15), 3);
    }

    private static void hundred() {
        P.onePair();
        P.x.child(0, 0, 0, -1);
        for (int i = 0; i < 100; i++) {
            P.due("leaves " + i, P.x.leaves(1, i), true);
        }
        P.due("leaves 100", P.x.leaves(0, 5), false);
        P.due("count(15)", P.x.count(15), 100);
        P.due("of(0, 3)", P.x.of(0, 3), -1);
        P.due("left(1, 0)", P.x.left(1, 0), 99);
    }

    private static void known() {
        P.onePair();
        P.x.child(0, 0, 0, -1);
        P.days(5);
        P.x.leaves(0, 3);
        P.days(5);
        P.x.leaves(0, 20);
        P.x.leaves(1, 7);
        P.days(5);
        P.x.leaves(0, -1);
        int[][] want = {{0, -1}, {4, -1}, {5, 3}, {9, 3}, {10, 20}, {14, 20}, {15, -1}, {3599, -1}, {3600, -1}, {-1, -1}};
        for (int[] row : want) {
            P.due("left(0, " + row[0] + ")", P.x.left(0, row[0]), row[1]);
        }
        P.due("left(1, 9)", P.x.left(1, 9), -1);
        P.due("left(1, 10)", P.x.left(1, 10), 7);
        P.due("left(1, 3599)", P.x.left(1, 3599), 7);
        P.due("left(1, 3600)", P.x.left(1, 3600), -1);
        P.due("left(2, 10)", P.x.left(2, 10), -1);
        P.due("left(-1, 10)", P.x.left(-1, 10), -1);
        // two on one DAY: what was told last
        P.x.leaves(0, 1);
        P.x.leaves(0, 2);
        P.due("left(0, 15)", P.x.left(0, 15), 2);
        P.due("left(0, 14)", P.x.left(0, 14), 20);
    }

    private static void pairsEnd() {
        P.onePair();
        P.x.child(0, 0, 0, -1);
        P.x.pair(0, 1);
        P.days(2);
        P.x.leaves(0, -1);
        P.due("of(0, 3)", P.x.of(0, 3), -1);
        P.x.leaves(0, 100);
        P.due("of(0, 3)", P.x.of(0, 3), 2);
        P.due("of(1, 3)", P.x.of(1, 3), -1);
        P.x.day();
        P.x.leaves(0, 1);
        P.due("of(0, 3)", P.x.of(0, 3), 2);
        P.x.leaves(0, -1);
        P.due("of(0, 3)", P.x.of(0, 3), 2);
        P.due("pair(0, 0)", P.x.pair(0, 0), 2);
        P.x.leaves(1, 1);
        P.due("of(1, 3)", P.x.of(1, 3), 3);
        P.due("of(2, 3)", P.x.of(2, 3), -1);
    }

    private static void amiss() {
        P.onePair();
        P.letter(0, 0, 1, "a");
        P.x.day();
        P.letter(0, 1, 1, "a");
        P.x.day();
        P.letter(0, 0, 1, "a");
        P.days(4);
        // they came on DAYS 3, 4 and 5; it is DAY 6
        P.due("about(2, 4)", P.x.about(2, 4), 5);
        P.due("amiss(6)", P.x.amiss(6), 0);
        P.letter(0, 0, 1, "a");
        P.x.leaves(0, 4);
        P.due("amiss(6)", P.x.amiss(6), 2);
        P.due("amiss(5)", P.x.amiss(5), 0);
        P.days(4);
        // the fourth went BACK
        P.due("about(3, 0)", P.x.about(3, 0), 7);
        P.due("amiss(10)", P.x.amiss(10), 2);
        P.x.leaves(0, 3);
        P.due("amiss(10)", P.x.amiss(10), 3);
        P.due("amiss(9)", P.x.amiss(9), 2);
        P.x.leaves(0, 5);
        P.due("amiss(10)", P.x.amiss(10), 1);
        P.x.leaves(0, 6);
        P.due("amiss(10)", P.x.amiss(10), 0);
        P.x.leaves(0, 0);
        P.due("amiss(3599)", P.x.amiss(3599), 3);
        P.x.leaves(0, -1);
        P.due("amiss(3599)", P.x.amiss(3599), 0);
        P.due("amiss(6)", P.x.amiss(6), 2);
        P.due("amiss(-1)", P.x.amiss(-1), -1);
        P.due("amiss(3600)", P.x.amiss(3600), -1);
    }

    private static void amissOfPairs() {
        P.onePair();
        P.x.child(0, 0, 0, -1);
        P.x.pair(0, 1);
        P.letter(0, 0, 1, "a");
        P.letter(1, 0, 1, "a");
        P.days(3);
        P.x.leaves(1, 2);
        P.due("amiss(3)", P.x.amiss(3), 1);
        P.x.leaves(0, 2);
        P.due("amiss(3)", P.x.amiss(3), 2);
    }

    private static void silent() {
        P.onePair();
        P.days(29);
        P.due("silent(0)", P.x.silent(0), 0);
        P.x.day();
        P.due("silent(0)", P.x.silent(0), 1);
        P.x.child(0, 0, 0, -1);
        P.x.pair(0, 1);
        P.days(45);
        P.due("silent(0)", P.x.silent(0), 2);
        P.due("silent(1)", P.x.silent(1), 1);
        P.due("silent(2)", P.x.silent(2), -1);
        P.due("silent(-1)", P.x.silent(-1), -1);
        P.x.end(0);
        P.due("silent(0)", P.x.silent(0), -1);
    }

    private static void silentByLetters() {
        P.onePair();
        P.x.child(0, 0, 0, -1);
        P.x.pair(0, 1);
        P.days(27);
        P.letter(0, 0, 1, "a");
        P.days(33);
        P.due("about(0, 4)", P.x.about(0, 4), 30);
        P.due("silent(0)", P.x.silent(0), 1);
        // the other PAIR of the GIVER has heard nothing
        P.due("silent(1)", P.x.silent(1), 2);
        // a LETTER of the CHILD, and one that does not come, are none of the GIVER that came
        P.rules("r:b");
        P.letter(0, 1, 1, "a");
        P.letter(0, 0, 1, "b");
        P.days(4);
        P.due("about(1, 0)", P.x.about(1, 0), 6);
        P.due("about(2, 0)", P.x.about(2, 0), 7);
        P.due("silent(0)", P.x.silent(0), 1);
        P.letter(0, 0, 1, "a");
        P.days(3);
        P.due("silent(0)", P.x.silent(0), 0);
        P.days(83);
        P.due("silent(0)", P.x.silent(0), 3);
    }
}
