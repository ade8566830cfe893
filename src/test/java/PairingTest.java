/** Promises 30 and 31: WISHES and THE PAIRING. */
public final class PairingTest {
    private static final Probe P = new Probe();

    public static void main(String[] args) {
        wishes();
        mostTwos();
        ageAndVillage();
        tongues();
        points();
        siblings();
        siblingsOfEnded();
        leastRow();
        firstSix();
        whoCanNot();
        fewerOfOne();
        lastOnes();
        fortyPairs();
        P.close("PairingTest");
    }

    private static void some(int givers, int children) {
        P.fresh();
        P.x.village(1, 0);
        P.x.village(1, 0);
        for (int i = 0; i < givers; i++) {
            P.x.giver(0);
        }
        for (int i = 0; i < children; i++) {
            P.x.child(0, 0, 0, -1);
        }
    }

    private static void duePair(int p, int giver, int child) {
        P.due("of(" + p + ", 0)", P.x.of(p, 0), giver);
        P.due("of(" + p + ", 1)", P.x.of(p, 1), child);
    }

    private static void wishes() {
        some(2, 0);
        P.due("wish(2, 0, 0)", P.x.wish(2, 0, 0), false);
        P.due("wish(-1, 0, 0)", P.x.wish(-1, 0, 0), false);
        P.due("wish(0, -1, 0)", P.x.wish(0, -1, 0), false);
        P.due("wish(0, 32, 0)", P.x.wish(0, 32, 0), false);
        P.due("wish(0, 0, -1)", P.x.wish(0, 0, -1), false);
        P.due("wish(0, 0, 64)", P.x.wish(0, 0, 64), false);
        P.due("count(14)", P.x.count(14), 0);
        P.due("wish(0, 31, 63)", P.x.wish(0, 31, 63), true);
        P.due("wish(1, 0, 0)", P.x.wish(1, 0, 0), true);
        P.due("wish(1, 1, 0)", P.x.wish(1, 1, 0), true);
        P.due("count(14)", P.x.count(14), 2);
        P.due("pairing() of no CHILDREN", P.x.pairing(), 0);
        P.due("count(14)", P.x.count(14), 2);
    }

    private static void mostTwos() {
        some(3, 2);
        P.days(4);
        for (int g = 0; g < 3; g++) {
            P.x.wish(g, 0, 0);
        }
        P.due("pairing()", P.x.pairing(), 2);
        duePair(0, 0, 0);
        duePair(1, 1, 1);
        P.due("of(0, 2)", P.x.of(0, 2), 4);
        P.due("count(14)", P.x.count(14), 1);
        P.due("count(5)", P.x.count(5), 2);
        P.due("pairing()", P.x.pairing(), 0);
        P.x.end(0);
        P.due("pairing()", P.x.pairing(), 1);
        duePair(2, 2, 0);
        P.due("count(14)", P.x.count(14), 0);
    }

    private static void ageAndVillage() {
        P.fresh();
        P.x.village(1, 0);
        P.x.village(1, 0);
        P.x.giver(0);
        P.x.giver(0);
        P.x.child(0, 1, 0, -1);
        P.x.child(1, 1, 4, -1);
        // AGE 4 is wished by 0, both VILLAGES by 1
        P.x.wish(0, 16, 0);
        P.x.wish(1, 0, 3);
        P.due("pairing()", P.x.pairing(), 2);
        duePair(0, 0, 1);
        duePair(1, 1, 0);
        // AGE weighs 3, VILLAGE 1: an AGE is more than two VILLAGES
        P.fresh();
        P.x.village(1, 0);
        P.x.village(1, 0);
        P.x.giver(0);
        P.x.giver(0);
        P.x.child(0, 1, 0, -1);
        P.x.child(1, 1, 4, -1);
        P.x.wish(0, 16, 1);
        P.x.wish(1, 0, 2);
        P.due("pairing()", P.x.pairing(), 2);
        duePair(0, 0, 1);
        // the latest wish counts alone
        P.x.end(0);
        P.x.end(1);
        P.x.wish(0, 16, 1);
        P.x.wish(0, 0, 1);
        P.x.wish(1, 0, 2);
        P.due("pairing()", P.x.pairing(), 2);
        duePair(2, 0, 0);
    }

    private static void tongues() {
        P.fresh();
        P.x.village(1, 0);
        P.x.giver(2);
        P.x.giver(3);
        P.x.child(0, 3, 0, -1);
        P.x.child(0, 2, 1, -1);
        P.x.wish(0, 0, 0);
        P.x.wish(1, 0, 0);
        P.due("pairing()", P.x.pairing(), 2);
        duePair(0, 0, 1);
        duePair(1, 1, 0);
        // two TONGUES (4) are more than one AGE (3), one TONGUE and one AGE more than both
        P.x.end(0);
        P.x.end(1);
        P.x.wish(0, 1, 0);
        P.x.wish(1, 0, 0);
        P.x.pairing();
        duePair(2, 0, 1);
        P.x.end(2);
        P.x.end(3);
        P.x.wish(0, 1, 0);
        P.x.wish(1, 2, 0);
        P.x.pairing();
        duePair(4, 0, 0);
        duePair(5, 1, 1);
    }

    /** One GIVER (of TONGUE 0, with the CHILD 0) and two more CHILDREN: which of them it is, as the third PAIR. */
    private static void dueOf(int wanted, int[] one, int[] other, int ages, int villages) {
        P.fresh();
        P.x.village(1, 0);
        P.x.village(1, 0);
        P.x.giver(0);
        P.x.child(0, 5, 4, -1);
        P.x.child(one[0], one[1], one[2], one[3]);
        P.x.child(other[0], other[1], other[2], other[3]);
        P.x.pair(0, 0);
        P.x.wish(0, ages, villages);
        P.due("pairing()", P.x.pairing(), 1);
        duePair(1, 0, wanted);
    }

    /** A CHILD is a VILLAGE, a TONGUE, an AGE, a SIBLING; AGE 1 and VILLAGE 1 are wished. */
    private static void points() {
        int[] none = {0, 1, 0, -1};
        int[] village = {1, 1, 0, -1};
        int[] tongue = {0, 0, 0, -1};
        int[] age = {0, 1, 1, -1};
        int[] sibling = {0, 1, 0, 0};
        int[] villageTongue = {1, 0, 0, -1};
        int[] villageAge = {1, 1, 1, -1};
        int[] tongueAge = {0, 0, 1, -1};
        int[][] rising = {none, village, tongue, age, sibling, tongueAge};
        for (int i = 0; i + 1 < rising.length; i++) {
            dueOf(2, rising[i], rising[i + 1], 2, 2);
            dueOf(1, rising[i + 1], rising[i], 2, 2);
        }
        // like ones: the first
        dueOf(1, villageTongue, age, 2, 2);
        dueOf(1, age, villageTongue, 2, 2);
        dueOf(1, villageAge, sibling, 2, 2);
        dueOf(1, sibling, villageAge, 2, 2);
        dueOf(1, village, none, 2, 2);
        dueOf(1, village, none, 2, 0);
        dueOf(1, none, village, 2, 0);
        dueOf(1, none, village, 2, 1 | 2);
        dueOf(2, none, village, 2, 2);
        dueOf(1, none, age, 2 | 1, 2);
    }

    private static void siblings() {
        P.fresh();
        P.x.village(1, 0);
        P.x.giver(0);
        P.x.giver(0);
        P.x.child(0, 1, 0, -1);
        P.x.child(0, 1, 0, -1);
        P.x.child(0, 1, 0, 0);
        P.x.pair(0, 0);
        P.x.wish(0, 0, 0);
        P.x.wish(1, 0, 0);
        P.due("pairing()", P.x.pairing(), 2);
        duePair(1, 0, 2);
        duePair(2, 1, 1);
        // one whose SIBLING it is, the other way round
        P.fresh();
        P.x.village(1, 0);
        P.x.giver(0);
        P.x.giver(0);
        P.x.child(0, 1, 0, -1);
        P.x.child(0, 1, 0, -1);
        P.x.child(0, 1, 0, 1);
        P.x.pair(0, 2);
        P.x.wish(0, 1, 0);
        P.x.wish(1, 0, 0);
        P.due("pairing()", P.x.pairing(), 2);
        duePair(1, 0, 1);
        duePair(2, 1, 0);
        // 4 is more than an AGE, less than an AGE and a TONGUE
        P.fresh();
        P.x.village(1, 0);
        P.x.giver(0);
        P.x.child(0, 0, 1, -1);
        P.x.child(0, 1, 0, -1);
        P.x.child(0, 1, 0, 1);
        P.x.pair(0, 1);
        P.x.wish(0, 2, 0);
        P.due("pairing()", P.x.pairing(), 1);
        duePair(1, 0, 0);
        P.x.end(1);
        P.x.wish(0, 0, 0);
        P.due("pairing()", P.x.pairing(), 1);
        duePair(2, 0, 2);
    }

    private static void siblingsOfEnded() {
        P.fresh();
        P.x.village(1, 0);
        P.x.giver(0);
        P.x.child(0, 1, 0, -1);
        P.x.child(0, 1, 0, -1);
        P.x.child(0, 1, 0, 0);
        P.x.pair(0, 0);
        P.x.leaves(0, 5);
        P.x.wish(0, 0, 0);
        P.due("pairing()", P.x.pairing(), 1);
        duePair(1, 0, 1);
        // a SIBLING with another GIVER is none with this one
        P.fresh();
        P.x.village(1, 0);
        P.x.giver(0);
        P.x.giver(0);
        P.x.child(0, 1, 0, -1);
        P.x.child(0, 1, 0, -1);
        P.x.child(0, 1, 0, 0);
        P.x.pair(1, 0);
        P.x.wish(0, 0, 0);
        P.due("pairing()", P.x.pairing(), 1);
        duePair(1, 0, 1);
    }

    private static void leastRow() {
        P.fresh();
        P.x.village(1, 0);
        for (int i = 0; i < 3; i++) {
            P.x.giver(0);
        }
        for (int i = 0; i < 3; i++) {
            P.x.child(0, 1, i, -1);
        }
        // 0 and 1 both want AGE 0, 2 wants all: the rows 0 1 2 and 1 0 2 are like ones
        P.x.wish(0, 1, 0);
        P.x.wish(1, 1, 0);
        P.x.wish(2, 7, 0);
        P.due("pairing()", P.x.pairing(), 3);
        duePair(0, 0, 0);
        duePair(1, 1, 1);
        duePair(2, 2, 2);
    }

    private static void firstSix() {
        some(8, 8);
        for (int g = 7; g >= 0; g--) {
            P.x.wish(g, 0, 0);
        }
        P.due("pairing()", P.x.pairing(), 6);
        for (int i = 0; i < 6; i++) {
            duePair(i, i, i);
        }
        P.due("count(14)", P.x.count(14), 2);
        P.due("pairing()", P.x.pairing(), 2);
        duePair(6, 6, 6);
        duePair(7, 7, 7);
        // a seventh CHILD that would suit better is not among the six
        P.fresh();
        P.x.village(1, 0);
        P.x.giver(0);
        for (int i = 0; i < 6; i++) {
            P.x.child(0, 1, 0, -1);
        }
        P.x.child(0, 0, 1, -1);
        P.x.wish(0, 2, 0);
        P.due("pairing()", P.x.pairing(), 1);
        duePair(0, 0, 0);
    }

    private static void whoCanNot() {
        some(3, 5);
        P.x.pair(0, 0);
        P.x.pair(0, 1);
        P.x.pair(1, 2);
        P.x.leaves(3, 50);
        P.x.wish(0, 0, 0);
        P.x.wish(1, 0, 0);
        P.due("pairing()", P.x.pairing(), 1);
        duePair(3, 1, 4);
        P.due("count(14)", P.x.count(14), 1);
        P.x.end(0);
        P.due("pairing()", P.x.pairing(), 1);
        duePair(4, 0, 0);
        P.due("of(5, 0)", P.x.of(5, 0), -1);
    }

    private static void fewerOfOne() {
        some(4, 2);
        P.x.giver(1);
        P.x.child(0, 1, 0, -1);
        for (int g = 0; g < 5; g++) {
            P.x.wish(g, 0, 0);
        }
        // of five GIVERS three have a CHILD: 4 has the one of its TONGUE
        P.due("pairing()", P.x.pairing(), 3);
        duePair(0, 0, 0);
        duePair(1, 1, 1);
        duePair(2, 4, 2);
    }

    /** The last of 16 GIVERS and of 16 CHILDREN. */
    private static void lastOnes() {
        some(16, 14);
        P.x.child(1, 5, 4, -1);
        P.x.child(1, 5, 4, 14);
        for (int c = 0; c < 14; c++) {
            P.x.leaves(c, 0);
        }
        P.x.pair(15, 14);
        P.x.wish(14, 0, 0);
        P.x.wish(15, 0, 0);
        P.due("pairing()", P.x.pairing(), 1);
        duePair(1, 15, 15);
        P.due("count(14)", P.x.count(14), 1);
        P.due("pairing()", P.x.pairing(), 0);
    }

    private static void fortyPairs() {
        some(3, 3);
        for (int i = 0; i < 38; i++) {
            P.x.pair(0, 0);
            P.x.end(i);
        }
        for (int g = 0; g < 3; g++) {
            P.x.wish(g, 0, 0);
        }
        P.due("pairing()", P.x.pairing(), 2);
        duePair(38, 0, 0);
        duePair(39, 1, 1);
        P.due("of(40, 0)", P.x.of(40, 0), -1);
        P.due("count(4)", P.x.count(4), 40);
        // who was not served still wishes
        P.due("count(14)", P.x.count(14), 1);
        P.due("pairing()", P.x.pairing(), 0);
    }
}
