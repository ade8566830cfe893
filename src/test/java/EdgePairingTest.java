/** Each bound of THE PAIRING in head 5 and in promises 30 and 31: WISHES, POINTS, the first six and the 40 PAIRS. */
public final class EdgePairingTest {
    private static final Probe P = new Probe();

    public static void main(String[] args) {
        wishBounds();
        insteadOfWhatWasWished();
        theFirstSixGivers();
        giversWhoWish();
        inLessThanTwoPairs();
        theFirstSixChildren();
        childrenInNone();
        noLeavingIsKnown();
        noChildTwice();
        oneChildAtOnce();
        threeForEachAge();
        oneForEachVillage();
        twoForLikeTongues();
        fourForTheSibling();
        pointsTogether();
        siblingOfAPairThatHasNotEnded();
        mostPoints();
        theLeastRow();
        sixForNone();
        upTo40Pairs();
        pairsFromThenOn();
        whoWishesNoMore();
        noneToPair();
        P.close("EdgePairingTest");
    }

    private static void some(int givers, int children) {
        P.fresh();
        P.x.village(1, 0);
        for (int i = 0; i < givers; i++) {
            P.x.giver(0);
        }
        for (int i = 0; i < children; i++) {
            P.x.child(0, 0, 0, -1);
        }
    }

    private static void allWish(int givers) {
        for (int g = 0; g < givers; g++) {
            P.x.wish(g, 0, 0);
        }
    }

    private static void duePair(int p, int giver, int child) {
        P.due("of(" + p + ", 0)", P.x.of(p, 0), giver);
        P.due("of(" + p + ", 1)", P.x.of(p, 1), child);
    }

    /** "AGES (bits, 0 to 31) and VILLAGES (bits, 0 to 63)": "false: no such ones". */
    private static void wishBounds() {
        for (int bits : new int[] {-1, 64, Integer.MIN_VALUE, Integer.MAX_VALUE}) {
            some(1, 0);
            P.due("wish(0, 0, " + bits + ")", P.x.wish(0, 0, bits), false);
            P.due("wish(0, " + bits + ", 0)", P.x.wish(0, bits, 0), false);
            P.due("wish(" + bits + ", 0, 0)", P.x.wish(bits, 0, 0), false);
            P.due("count(14)", P.x.count(14), 0);
        }
        some(2, 0);
        P.due("wish(0, 32, 0)", P.x.wish(0, 32, 0), false);
        P.due("wish(2, 0, 0)", P.x.wish(2, 0, 0), false);
        P.due("wish(0, 0, 0)", P.x.wish(0, 0, 0), true);
        P.due("wish(1, 31, 63)", P.x.wish(1, 31, 63), true);
        P.due("count(14)", P.x.count(14), 2);
        // VILLAGES that are not there yet can be wished
        P.fresh();
        P.x.giver(0);
        P.due("wish(0, 31, 63)", P.x.wish(0, 31, 63), true);
    }

    /** "instead of what was wished": nothing of it is left. */
    private static void insteadOfWhatWasWished() {
        P.fresh();
        P.x.village(1, 0);
        P.x.village(1, 0);
        P.x.giver(0);
        P.x.child(0, 1, 0, -1);
        P.x.child(1, 1, 1, -1);
        P.x.wish(0, 2, 2);
        P.x.wish(0, 0, 0);
        P.due("count(14)", P.x.count(14), 1);
        P.due("pairing()", P.x.pairing(), 1);
        duePair(0, 0, 0);
        P.x.end(0);
        P.x.wish(0, 0, 0);
        P.x.wish(0, 2, 2);
        P.x.wish(0, 32, 0);
        P.x.wish(0, 0, 64);
        P.due("pairing()", P.x.pairing(), 1);
        duePair(1, 0, 1);
    }

    /** "the first six GIVERS who WISH (by numbers)": the seventh has none, though it would have more POINTS. */
    private static void theFirstSixGivers() {
        some(6, 7);
        P.x.giver(0);
        for (int g = 6; g >= 0; g--) {
            P.x.wish(g, g == 6 ? 1 : 0, 0);
        }
        P.due("pairing()", P.x.pairing(), 6);
        for (int g = 0; g < 6; g++) {
            duePair(g, g, g);
        }
        P.due("count(14)", P.x.count(14), 1);
        P.due("pairing()", P.x.pairing(), 1);
        duePair(6, 6, 6);
        some(6, 7);
        allWish(6);
        P.due("pairing() of six", P.x.pairing(), 6);
        P.due("count(14)", P.x.count(14), 0);
    }

    /** Those who do not WISH are none of the six. */
    private static void giversWhoWish() {
        some(16, 6);
        for (int g = 10; g < 16; g++) {
            P.x.wish(g, 0, 0);
        }
        P.due("pairing()", P.x.pairing(), 6);
        duePair(0, 10, 0);
        duePair(5, 15, 5);
    }

    /** "and are in less than two PAIRS that have not ENDED": those in two are none of the six. */
    private static void inLessThanTwoPairs() {
        some(7, 9);
        P.x.pair(0, 0);
        P.x.pair(0, 1);
        P.x.pair(1, 2);
        allWish(7);
        P.due("pairing()", P.x.pairing(), 6);
        duePair(3, 1, 3);
        duePair(8, 6, 8);
        P.due("count(14)", P.x.count(14), 1);
        P.due("pairing()", P.x.pairing(), 0);
        P.x.end(1);
        P.due("pairing() when one has ENDED", P.x.pairing(), 1);
        duePair(9, 0, 1);
    }

    /** "the first six CHILDREN (by numbers)": the seventh is not among them, though it has more POINTS. */
    private static void theFirstSixChildren() {
        some(1, 6);
        P.x.child(0, 0, 3, -1);
        P.x.wish(0, 8, 0);
        P.due("pairing()", P.x.pairing(), 1);
        duePair(0, 0, 0);
        some(1, 5);
        P.x.child(0, 0, 3, -1);
        P.x.wish(0, 8, 0);
        P.due("pairing()", P.x.pairing(), 1);
        duePair(0, 0, 5);
    }

    /** "who are in none": those that are in one are none of the six. */
    private static void childrenInNone() {
        some(2, 6);
        P.x.child(0, 0, 3, -1);
        P.x.pair(1, 0);
        P.x.wish(0, 8, 0);
        P.due("pairing()", P.x.pairing(), 1);
        duePair(1, 0, 6);
        some(2, 1);
        P.x.pair(1, 0);
        P.x.wish(0, 0, 0);
        P.due("pairing() of none", P.x.pairing(), 0);
        P.x.end(0);
        P.due("pairing() when it has ENDED", P.x.pairing(), 1);
    }

    /** "of whom no leaving is KNOWN": of DAY 0, of one ahead; one that has not left is there again. */
    private static void noLeavingIsKnown() {
        some(1, 3);
        P.x.leaves(0, 0);
        P.x.leaves(1, 3599);
        P.x.wish(0, 0, 0);
        P.due("pairing()", P.x.pairing(), 1);
        duePair(0, 0, 2);
        P.x.end(0);
        P.x.leaves(1, -1);
        P.x.wish(0, 0, 0);
        P.due("pairing()", P.x.pairing(), 1);
        duePair(1, 0, 1);
    }

    /** "each GIVER one CHILD or none, no CHILD twice". */
    private static void noChildTwice() {
        some(3, 1);
        allWish(3);
        P.due("pairing()", P.x.pairing(), 1);
        duePair(0, 0, 0);
        P.due("of(1, 0)", P.x.of(1, 0), -1);
        P.due("count(14)", P.x.count(14), 2);
    }

    /** One CHILD at once, though there is place for two. */
    private static void oneChildAtOnce() {
        some(1, 3);
        P.x.wish(0, 0, 0);
        P.due("pairing()", P.x.pairing(), 1);
        P.due("count(14)", P.x.count(14), 0);
        P.due("pairing()", P.x.pairing(), 0);
        P.x.wish(0, 0, 0);
        P.due("pairing()", P.x.pairing(), 1);
        P.x.wish(0, 0, 0);
        P.due("pairing() of a GIVER in two", P.x.pairing(), 0);
    }

    /** "3 if the AGE is wished": each of the five bits. */
    private static void threeForEachAge() {
        for (int age = 0; age < 5; age++) {
            P.fresh();
            P.x.village(1, 0);
            P.x.giver(0);
            for (int a = 0; a < 5; a++) {
                P.x.child(0, 1, a, -1);
            }
            P.x.wish(0, 1 << age, 0);
            P.x.pairing();
            duePair(0, 0, age);
        }
        P.fresh();
        P.x.village(1, 0);
        P.x.giver(0);
        P.x.child(0, 1, 0, -1);
        P.x.child(0, 1, 4, -1);
        P.x.wish(0, 31 & ~1, 0);
        P.x.pairing();
        duePair(0, 0, 1);
    }

    /** "1 if the VILLAGE is": each of the six bits. */
    private static void oneForEachVillage() {
        for (int village = 0; village < 6; village++) {
            P.fresh();
            P.x.giver(0);
            for (int v = 0; v < 6; v++) {
                P.x.village(1, 0);
            }
            for (int v = 0; v < 6; v++) {
                P.x.child(v, 1, 0, -1);
            }
            P.x.wish(0, 31, 1 << village);
            P.x.pairing();
            duePair(0, 0, village);
        }
    }

    /** "2 if TONGUES are alike": each of the six. */
    private static void twoForLikeTongues() {
        for (int tongue = 0; tongue < 6; tongue++) {
            P.fresh();
            P.x.village(1, 0);
            P.x.giver(tongue);
            for (int t = 0; t < 6; t++) {
                P.x.child(0, t, 0, -1);
            }
            P.x.wish(0, 31, 63);
            P.x.pairing();
            duePair(0, 0, tongue);
        }
    }

    /** "4 if the SIBLING (or one whose SIBLING it is) is in a PAIR with that GIVER". */
    private static void fourForTheSibling() {
        P.fresh();
        P.x.village(1, 0);
        P.x.giver(0);
        P.x.child(0, 1, 0, -1);
        P.x.child(0, 1, 1, -1);
        P.x.child(0, 1, 0, 0);
        P.x.pair(0, 0);
        // an AGE is 3, a SIBLING 4
        P.x.wish(0, 2, 0);
        P.x.pairing();
        duePair(1, 0, 2);
        P.fresh();
        P.x.village(1, 0);
        P.x.giver(0);
        P.x.child(0, 1, 1, -1);
        P.x.child(0, 1, 0, -1);
        P.x.child(0, 1, 0, 1);
        P.x.pair(0, 2);
        P.x.wish(0, 2, 0);
        P.x.pairing();
        duePair(1, 0, 1);
        // with a VILLAGE the AGE is as much: the first
        P.fresh();
        P.x.village(1, 0);
        P.x.village(1, 0);
        P.x.giver(0);
        P.x.child(1, 1, 1, -1);
        P.x.child(0, 1, 0, -1);
        P.x.child(0, 1, 0, 1);
        P.x.pair(0, 2);
        P.x.wish(0, 2, 2);
        P.x.pairing();
        duePair(1, 0, 0);
        // of one SIBLING's SIBLING there are no POINTS
        P.fresh();
        P.x.village(1, 0);
        P.x.giver(0);
        P.x.giver(0);
        P.x.child(0, 1, 0, -1);
        P.x.child(0, 1, 0, 0);
        P.x.child(0, 1, 1, -1);
        P.x.child(0, 1, 0, 1);
        P.x.pair(1, 1);
        P.x.pair(0, 0);
        P.x.wish(0, 2, 0);
        P.x.pairing();
        duePair(2, 0, 2);
    }

    /** Of two CHILDREN (VILLAGE, TONGUE, AGE, SIBLING) the GIVER of CHILD 0 has the one with more POINTS, else the first. */
    private static void duePoints(int[] one, int points, int[] other, int otherPoints) {
        for (int turned = 0; turned < 2; turned++) {
            P.fresh();
            P.x.village(1, 0);
            P.x.village(1, 0);
            P.x.giver(0);
            P.x.child(0, 5, 4, -1);
            int[][] two = turned == 0 ? new int[][] {one, other} : new int[][] {other, one};
            for (int[] c : two) {
                P.x.child(c[0], c[1], c[2], c[3]);
            }
            P.x.pair(0, 0);
            P.x.wish(0, 2, 2);
            P.x.pairing();
            boolean second = turned == 0 ? otherPoints > points : points > otherPoints;
            duePair(1, 0, second ? 2 : 1);
        }
    }

    /** "3 ..., 1 ..., 2 ..., 4": each sum of them against each other one. */
    private static void pointsTogether() {
        for (int a = 0; a < 16; a++) {
            for (int b = 0; b < 16; b++) {
                duePoints(childOf(a), pointsOf(a), childOf(b), pointsOf(b));
            }
        }
    }

    /** VILLAGE 1 and AGE 1 are wished, TONGUE 0 is alike, CHILD 0 is in a PAIR with the GIVER. */
    private static int[] childOf(int bits) {
        return new int[] {bits & 1, (bits >> 1 & 1) ^ 1, bits >> 2 & 1, (bits >> 3 & 1) - 1};
    }

    private static int pointsOf(int bits) {
        return (bits & 1) + 2 * (bits >> 1 & 1) + 3 * (bits >> 2 & 1) + 4 * (bits >> 3 & 1);
    }

    /** "that has not ENDED". */
    private static void siblingOfAPairThatHasNotEnded() {
        P.fresh();
        P.x.village(1, 0);
        P.x.giver(0);
        P.x.giver(0);
        P.x.child(0, 1, 0, -1);
        P.x.child(0, 1, 1, -1);
        P.x.child(0, 1, 0, 0);
        P.x.pair(0, 0);
        P.x.end(0);
        P.x.pair(1, 0);
        P.x.wish(0, 2, 0);
        P.x.pairing();
        duePair(2, 0, 1);
    }

    /** "of like ones of most POINTS": of all together, not of each by itself. */
    private static void mostPoints() {
        P.fresh();
        P.x.village(1, 0);
        P.x.giver(0);
        P.x.giver(0);
        P.x.child(0, 0, 0, -1);
        P.x.child(0, 1, 0, -1);
        // 0 and 0 are 5, 1 and 1 are 0; 0 and 1 are 3, 1 and 0 are 2: alike, so the least row
        P.x.wish(0, 1, 0);
        P.x.wish(1, 0, 0);
        P.due("pairing()", P.x.pairing(), 2);
        duePair(0, 0, 0);
        P.fresh();
        P.x.village(1, 0);
        P.x.village(1, 0);
        P.x.giver(0);
        P.x.giver(0);
        P.x.child(0, 0, 0, -1);
        P.x.child(0, 1, 0, -1);
        // with a VILLAGE more for 1 and 0 it is 6 of 5
        P.x.child(1, 0, 0, -1);
        P.x.leaves(0, 0);
        P.x.wish(0, 1, 0);
        P.x.wish(1, 0, 2);
        P.due("pairing()", P.x.pairing(), 2);
        duePair(0, 0, 1);
        duePair(1, 1, 2);
    }

    /** "of like ones the least row (by GIVERS: the place of the CHILD among those six ...)". */
    private static void theLeastRow() {
        some(3, 5);
        P.x.pair(2, 0);
        P.x.leaves(2, 0);
        P.x.wish(1, 0, 0);
        P.x.wish(0, 0, 0);
        P.due("pairing()", P.x.pairing(), 2);
        duePair(1, 0, 1);
        duePair(2, 1, 3);
        some(6, 6);
        allWish(6);
        P.due("pairing()", P.x.pairing(), 6);
        for (int i = 0; i < 6; i++) {
            duePair(i, i, i);
        }
    }

    /** "6 for none": the last GIVERS have none, if POINTS do not say otherwise. */
    private static void sixForNone() {
        some(6, 5);
        allWish(6);
        P.due("pairing()", P.x.pairing(), 5);
        duePair(4, 4, 4);
        P.due("of(5, 0)", P.x.of(5, 0), -1);
        // the first has none, if the last has a POINT more
        P.fresh();
        P.x.village(1, 0);
        P.x.giver(1);
        P.x.giver(1);
        P.x.child(0, 0, 0, -1);
        P.x.wish(0, 0, 0);
        P.x.wish(1, 0, 1);
        P.due("pairing()", P.x.pairing(), 1);
        duePair(0, 1, 0);
        // one GIVER for the sixth CHILD
        P.fresh();
        P.x.village(1, 0);
        P.x.giver(1);
        for (int c = 0; c < 6; c++) {
            P.x.child(0, c == 5 ? 1 : 0, 0, -1);
        }
        P.x.wish(0, 0, 0);
        P.due("pairing()", P.x.pairing(), 1);
        duePair(0, 0, 5);
    }

    /** "All of them are PAIRS from then on (up to 40 PAIRS in all), by GIVERS". */
    private static void upTo40Pairs() {
        for (int before = 36; before <= 40; before++) {
            some(3, 3);
            for (int p = 0; p < before; p++) {
                P.x.pair(2, 2);
                P.x.end(p);
            }
            allWish(3);
            int made = Math.min(3, 40 - before);
            P.due("pairing() with " + before, P.x.pairing(), made);
            P.due("count(4)", P.x.count(4), before + made);
            P.due("count(14)", P.x.count(14), 3 - made);
            for (int i = 0; i < made; i++) {
                duePair(before + i, i, i);
            }
            P.due("of(40, 0)", P.x.of(40, 0), -1);
            P.due("pairing() again", P.x.pairing(), 0);
        }
    }

    /** They are PAIRS of this DAY, with nothing told of them. */
    private static void pairsFromThenOn() {
        some(2, 2);
        P.days(3);
        allWish(2);
        P.x.pairing();
        for (int p = 0; p < 2; p++) {
            P.due("of(p, 2)", P.x.of(p, 2), 3);
            P.due("of(p, 3)", P.x.of(p, 3), -1);
            P.due("of(p, 4)", P.x.of(p, 4), -1);
            P.due("of(p, 5)", P.x.of(p, 5), 0);
            P.due("hints(p)", P.x.hints(p), 0);
            P.due("silent(p)", P.x.silent(p), 0);
            P.due("letter", P.letter(p, 0, 1, "a"), p);
        }
    }

    /** "those of these WISH no more": a PAIR made by hand leaves the WISH. */
    private static void whoWishesNoMore() {
        some(3, 2);
        allWish(3);
        P.x.pair(2, 1);
        P.due("count(14)", P.x.count(14), 3);
        P.due("pairing()", P.x.pairing(), 1);
        P.due("count(14)", P.x.count(14), 2);
        P.x.end(1);
        P.due("pairing()", P.x.pairing(), 1);
        duePair(2, 1, 0);
        P.due("count(14)", P.x.count(14), 1);
    }

    /** None who WISHES, no CHILDREN, nothing at all: 0, and nothing is changed. */
    private static void noneToPair() {
        P.fresh();
        P.due("pairing() of nothing", P.x.pairing(), 0);
        some(2, 2);
        P.due("pairing() with no WISHES", P.x.pairing(), 0);
        some(2, 0);
        allWish(2);
        P.due("pairing() with no CHILDREN", P.x.pairing(), 0);
        P.due("count(14)", P.x.count(14), 2);
        P.due("count(4)", P.x.count(4), 0);
    }
}
