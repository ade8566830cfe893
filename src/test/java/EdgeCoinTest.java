import java.util.function.IntUnaryOperator;

/** Each bound in head 4 and in promises 21 to 25: GIFTS, pools, PROJECTS and THE CHOICE. */
public final class EdgeCoinTest {
    private static final Probe P = new Probe();

    public static void main(String[] args) {
        giftOf1To1000000();
        giftOfAnOpenPair();
        eachRoundedDown();
        hundredTogether();
        noneForOfficeAndVillage();
        notMoreThanCInThisYear();
        cOf0And1000000();
        inThisYear();
        yearOfTheChild();
        whatIsLeftToThePool();
        manyGreatGifts();
        coinBounds();
        twelveProjects();
        projectBounds();
        notAboveItsPool();
        ofThatVillageAlone();
        mostWorth();
        ofLikeOnesLeastCost();
        ofLikeOnesLeastBits();
        worthOf0();
        emptyChoice();
        buildTakesTheCosts();
        nothingIsChosen();
        allTwelve();
        P.close("EdgeCoinTest");
    }

    private static void bounds(String call, Runnable state, IntUnaryOperator asked, int first, int last) {
        int[] taken = {first, last};
        for (int n : taken) {
            state.run();
            P.due(call + " of " + n + " is taken", asked.applyAsInt(n) >= 0, true);
        }
        int[] refused = {first - 1, last + 1, Integer.MIN_VALUE, Integer.MAX_VALUE};
        for (int n : refused) {
            state.run();
            P.due(call + " of " + n, asked.applyAsInt(n), -1);
        }
    }

    /** "A GIFT of PAIR p (1 to 1000000 pence)". */
    private static void giftOf1To1000000() {
        bounds("gift", P::onePair, n -> P.x.gift(0, n), 1, 1000000);
        P.onePair();
        P.x.gift(0, 0);
        P.x.gift(0, 1000001);
        P.due("coin(1)", P.x.coin(1), 0);
        P.x.gift(0, 1000000);
        P.due("coin(1)", P.x.coin(1), 1000000);
    }

    /** "of a PAIR that has not ENDED": "no such ones, ENDED". */
    private static void giftOfAnOpenPair() {
        P.onePair();
        P.due("gift(-1, 5)", P.x.gift(-1, 5), -1);
        P.due("gift(1, 5)", P.x.gift(1, 5), -1);
        P.due("gift(0, 10)", P.x.gift(0, 10), 5);
        P.x.end(0);
        P.due("gift of one that has ENDED", P.x.gift(0, 10), -1);
        P.due("coin(1)", P.x.coin(1), 10);
    }

    /** "o and v hundredths of it, each rounded down": just below a penny, just one. */
    private static void eachRoundedDown() {
        int[][] rows = {{9, 0, 3}, {10, 1, 4}, {19, 1, 7}, {20, 2, 8}, {2, 0, 0}, {3, 0, 1}, {5, 0, 2}, {99, 9, 39}, {100, 10, 40}};
        for (int[] row : rows) {
            P.onePair();
            P.due("gift(0, " + row[0] + ")", P.x.gift(0, row[0]), row[0] - row[1] - row[2]);
            P.due("coin(0) of " + row[0], P.x.coin(0), row[1]);
            P.due("coin(10) of " + row[0], P.x.coin(10), row[2]);
        }
        // each for itself: 50 and 50 of 1 are nothing together
        P.onePair();
        P.x.number(5, 50);
        P.x.number(6, 50);
        P.due("gift(0, 1)", P.x.gift(0, 1), 1);
        P.due("gift(0, 3)", P.x.gift(0, 3), 1);
        P.due("coin(0)", P.x.coin(0), 1);
        P.due("coin(10)", P.x.coin(10), 1);
        P.onePair();
        P.x.number(5, 1);
        P.x.number(6, 99);
        P.due("gift(0, 99)", P.x.gift(0, 99), 99 - 98);
        P.due("coin(0)", P.x.coin(0), 0);
        P.due("gift(0, 100)", P.x.gift(0, 100), 0);
        P.due("coin(0)", P.x.coin(0), 1);
    }

    /** All for the office, all for the VILLAGE. */
    private static void hundredTogether() {
        P.onePair();
        P.x.number(6, 0);
        P.x.number(5, 100);
        P.due("gift(0, 1000000)", P.x.gift(0, 1000000), 0);
        P.due("coin(0)", P.x.coin(0), 1000000);
        P.due("coin(10)", P.x.coin(10), 0);
        P.x.number(5, 0);
        P.x.number(6, 100);
        P.due("gift(0, 1000000)", P.x.gift(0, 1000000), 0);
        P.due("coin(0)", P.x.coin(0), 1000000);
        P.due("coin(10)", P.x.coin(10), 1000000);
    }

    /** No hundredth for either: all of it is the CHILD's, as far as c goes. */
    private static void noneForOfficeAndVillage() {
        P.onePair();
        P.x.number(5, 0);
        P.x.number(6, 0);
        P.due("gift(0, 1)", P.x.gift(0, 1), 1);
        P.due("gift(0, 4999)", P.x.gift(0, 4999), 4999);
        P.due("coin(10)", P.x.coin(10), 0);
        P.due("gift(0, 1)", P.x.gift(0, 1), 0);
        P.due("coin(10)", P.x.coin(10), 1);
    }

    /** "so much to the CHILD that it has not more than c of GIFTS in this YEAR": one less, just c, one more. */
    private static void notMoreThanCInThisYear() {
        for (int c : new int[] {499, 500, 501}) {
            P.onePair();
            P.x.number(7, c);
            int has = Math.min(c, 500);
            P.due("gift with c " + c, P.x.gift(0, 1000), has);
            P.due("coin(20)", P.x.coin(20), has);
            P.due("coin(10)", P.x.coin(10), 900 - has);
            P.due("gift again", P.x.gift(0, 1000), c - has);
            P.due("and again", P.x.gift(0, 1000), 0);
        }
        // c that is less than what it has takes nothing back
        P.onePair();
        P.x.gift(0, 1000);
        P.x.number(7, 499);
        P.due("gift with less", P.x.gift(0, 1000), 0);
        P.due("coin(40)", P.x.coin(40), 500);
    }

    /** "(0 to 1000000; 5000)". */
    private static void cOf0And1000000() {
        P.onePair();
        P.x.number(7, 0);
        P.due("gift with c 0", P.x.gift(0, 1000000), 0);
        P.due("coin(10)", P.x.coin(10), 900000);
        P.x.number(7, 1000000);
        P.x.number(5, 0);
        P.x.number(6, 0);
        P.due("gift with c 1000000", P.x.gift(0, 1000000), 1000000);
        P.due("gift above it", P.x.gift(0, 1000000), 0);
        P.due("coin(40)", P.x.coin(40), 1000000);
    }

    /** "in this YEAR": its last DAY, the first of the next, and a YEAR with none between. */
    private static void inThisYear() {
        P.onePair();
        P.x.number(7, 10);
        P.due("gift on DAY 0", P.x.gift(0, 100), 10);
        P.days(359);
        P.due("gift on DAY 359", P.x.gift(0, 100), 0);
        P.x.day();
        P.due("coin(40) on DAY 360", P.x.coin(40), 0);
        P.due("gift on DAY 360", P.x.gift(0, 100), 10);
        P.days(719);
        P.due("coin(40) on DAY 1079", P.x.coin(40), 0);
        P.due("gift on DAY 1079", P.x.gift(0, 100), 10);
        P.x.day();
        P.due("gift on DAY 1080", P.x.gift(0, 100), 10);
        P.due("coin(20)", P.x.coin(20), 40);
        P.due("coin(40)", P.x.coin(40), 10);
    }

    /** A CHILD's YEAR goes on in its next PAIR. */
    private static void yearOfTheChild() {
        P.onePair();
        P.x.giver(0);
        P.x.number(7, 30);
        P.due("gift", P.x.gift(0, 50), 25);
        P.x.end(0);
        P.x.pair(1, 0);
        P.due("gift of the next PAIR", P.x.gift(1, 50), 5);
        P.due("coin(40)", P.x.coin(40), 30);
    }

    /** "what is left, to the pool": nothing is lost of any GIFT. */
    private static void whatIsLeftToThePool() {
        P.onePair();
        P.x.number(5, 33);
        P.x.number(6, 33);
        P.x.number(7, 50);
        long given = 0;
        for (int pence = 1; pence < 60; pence++) {
            P.x.gift(0, pence);
            given += pence;
            P.due("all that was given", P.x.coin(0) + P.x.coin(10) + P.x.coin(20), given);
        }
        P.due("coin(1)", P.x.coin(1), given);
        P.due("coin(20)", P.x.coin(20), 50);
    }

    /** As many of the greatest GIFTS as an object has calls: no sum turns about. */
    private static void manyGreatGifts() {
        P.onePair();
        for (int i = 0; i < 500; i++) {
            P.x.gift(0, 1000000);
        }
        P.due("coin(1)", P.x.coin(1), 500000000L);
        P.due("coin(0)", P.x.coin(0), 50000000L);
        P.due("coin(10)", P.x.coin(10), 450000000L - 5000);
        for (int i = 500; i < 3000; i++) {
            P.x.gift(0, 1000000);
        }
        P.due("coin(1), beyond an int", P.x.coin(1), 3000000000L);
        P.due("coin(10), beyond an int", P.x.coin(10), 2700000000L - 5000);
    }

    /** "10 + v ...; 20 + c ...; 40 + c .... 0 for others." */
    private static void coinBounds() {
        P.fresh();
        for (int v = 0; v < 6; v++) {
            P.x.village(1, 0);
        }
        P.x.giver(0);
        P.x.giver(0);
        for (int c = 0; c < 16; c++) {
            P.x.child(c == 0 ? 0 : 5, 0, 0, -1);
        }
        P.x.pair(0, 0);
        P.x.pair(1, 15);
        P.x.gift(0, 100);
        P.x.gift(1, 200);
        P.x.project(0, 40, 1);
        P.x.build(0);
        int[][] rows = {{0, 30}, {1, 300}, {2, 40}, {10, 0}, {15, 80}, {20, 50}, {35, 100}, {40, 50}, {55, 100}};
        for (int[] row : rows) {
            P.due("coin(" + row[0] + ")", P.x.coin(row[0]), row[1]);
        }
        for (int what : new int[] {-1, 3, 9, 11, 14, 16, 19, 21, 34, 36, 39, 41, 54, 56, Integer.MIN_VALUE, Integer.MAX_VALUE}) {
            P.due("coin(" + what + ")", P.x.coin(what), 0);
        }
    }

    /** "PROJECTS 0 to 11 of all VILLAGES": "12 are there", built ones too. */
    private static void twelveProjects() {
        P.onePair();
        P.x.village(1, 0);
        P.x.gift(0, 100000);
        for (int i = 0; i < 12; i++) {
            P.due("project", P.x.project(i % 2, 1, 1), i);
            P.x.build(i % 2);
        }
        P.due("project 12", P.x.project(0, 1, 1), -1);
        P.due("project 12 of another VILLAGE", P.x.project(1, 1, 1), -1);
        P.due("count(12)", P.x.count(12), 12);
        P.due("count(13)", P.x.count(13), 6);
    }

    /** "a VILLAGE, a COST (1 to 1000000), a WORTH (0 to 1000)". */
    private static void projectBounds() {
        bounds("COST", P::onePair, n -> P.x.project(0, n, 5), 1, 1000000);
        bounds("WORTH", P::onePair, n -> P.x.project(0, 5, n), 0, 1000);
        bounds("VILLAGE", P::onePair, n -> P.x.project(n, 5, 5), 0, 0);
        P.fresh();
        P.due("project of no VILLAGE", P.x.project(0, 5, 5), -1);
        P.due("choice of no VILLAGE", P.x.choice(0), -1);
        P.due("build of no VILLAGE", P.x.build(0), -1);
        P.due("count(12)", P.x.count(12), 0);
    }

    /** PAIRS in two VILLAGES, with pools of 100 and 50. */
    private static void pools() {
        P.fresh();
        P.x.village(1, 0);
        P.x.village(1, 0);
        P.x.giver(0);
        P.x.child(0, 0, 0, -1);
        P.x.child(1, 0, 0, -1);
        P.x.pair(0, 0);
        P.x.pair(0, 1);
        P.x.number(5, 0);
        P.x.number(6, 100);
        P.x.gift(0, 100);
        P.x.gift(1, 50);
    }

    /** "whose COSTS together are not above its pool": just the pool, one penny more; of one and of two. */
    private static void notAboveItsPool() {
        pools();
        P.x.project(0, 101, 9);
        P.due("one of 101", P.x.choice(0), 0);
        P.x.project(0, 100, 1);
        P.due("one of 100", P.x.choice(0), 2);
        pools();
        P.x.project(0, 50, 5);
        P.x.project(0, 51, 6);
        P.due("50 and 51", P.x.choice(0), 2);
        P.x.gift(0, 1);
        P.due("with one penny more", P.x.choice(0), 3);
    }

    /** "of all sets of its PROJECTS": not of another VILLAGE, not from another pool. */
    private static void ofThatVillageAlone() {
        pools();
        P.x.project(1, 50, 900);
        P.x.project(0, 60, 1);
        P.x.project(1, 1, 5);
        P.due("choice(0)", P.x.choice(0), 2);
        P.due("choice(1)", P.x.choice(1), 1);
        P.due("choice(-1)", P.x.choice(-1), -1);
        P.due("choice(2)", P.x.choice(2), -1);
        P.due("build(1)", P.x.build(1), 50);
        P.due("coin(10)", P.x.coin(10), 100);
        P.due("coin(11)", P.x.coin(11), 0);
    }

    /** "that of most WORTH": by one more, and dearer. */
    private static void mostWorth() {
        pools();
        P.x.project(0, 40, 5);
        P.x.project(0, 40, 5);
        P.x.project(0, 100, 10);
        P.due("two of 10 for 80", P.x.choice(0), 3);
        pools();
        P.x.project(0, 40, 5);
        P.x.project(0, 40, 5);
        P.x.project(0, 100, 11);
        P.due("one of 11 for 100", P.x.choice(0), 4);
    }

    /** "of like ones of least COST": by one penny less. */
    private static void ofLikeOnesLeastCost() {
        pools();
        P.x.project(0, 61, 5);
        P.x.project(0, 60, 5);
        P.due("the second is a penny less", P.x.choice(0), 2);
        pools();
        P.x.project(0, 60, 5);
        P.x.project(0, 61, 5);
        P.due("the first is a penny less", P.x.choice(0), 1);
    }

    /** "of like ones the least, as bits". */
    private static void ofLikeOnesLeastBits() {
        pools();
        P.x.project(0, 60, 5);
        P.x.project(0, 60, 5);
        P.due("1 and 2", P.x.choice(0), 1);
        pools();
        P.x.project(0, 50, 4);
        P.x.project(0, 40, 4);
        P.x.project(0, 30, 4);
        P.x.project(0, 60, 4);
        // 4 and 2 for 70, 4 and 1 for 80
        P.due("least COST of two", P.x.choice(0), 2 + 4);
        pools();
        P.x.project(0, 70, 6);
        P.x.project(0, 30, 2);
        P.x.project(0, 30, 2);
        P.due("1 + 2 and 1 + 4", P.x.choice(0), 1 + 2);
    }

    /** A PROJECT of no WORTH is in no CHOICE: its COST is more than nothing. */
    private static void worthOf0() {
        pools();
        P.x.project(0, 1, 0);
        P.due("choice(0)", P.x.choice(0), 0);
        P.due("build(0)", P.x.build(0), -1);
        P.x.project(0, 99, 1);
        P.due("choice(0)", P.x.choice(0), 2);
    }

    /** A set of none is one of all sets: 0 where nothing can be paid, or there is nothing. */
    private static void emptyChoice() {
        P.onePair();
        P.due("no PROJECTS", P.x.choice(0), 0);
        P.x.project(0, 1, 1);
        P.due("an empty pool", P.x.choice(0), 0);
        P.due("build(0)", P.x.build(0), -1);
        P.x.gift(0, 3);
        P.due("coin(10)", P.x.coin(10), 1);
        P.due("a pool of just one", P.x.choice(0), 1);
    }

    /** "To build it takes the COSTS out of the pool"; "that are not built". */
    private static void buildTakesTheCosts() {
        pools();
        P.x.project(0, 60, 3);
        P.x.project(0, 40, 2);
        P.x.project(0, 1, 1);
        P.due("choice(0)", P.x.choice(0), 3);
        P.due("build(0)", P.x.build(0), 100);
        P.due("coin(10)", P.x.coin(10), 0);
        P.due("coin(2)", P.x.coin(2), 100);
        P.due("count(13)", P.x.count(13), 2);
        P.due("choice(0)", P.x.choice(0), 0);
        P.x.gift(0, 101);
        P.due("not those that are built", P.x.choice(0), 4);
        P.due("build(0)", P.x.build(0), 1);
        P.due("coin(2)", P.x.coin(2), 101);
        P.due("coin(10)", P.x.coin(10), 100);
    }

    /** "NONE: no such VILLAGE, nothing is chosen". */
    private static void nothingIsChosen() {
        pools();
        P.due("build(-1)", P.x.build(-1), -1);
        P.due("build(2)", P.x.build(2), -1);
        P.due("build(0) with no PROJECTS", P.x.build(0), -1);
        P.x.project(0, 101, 5);
        P.due("build(0), too dear", P.x.build(0), -1);
        P.due("count(13)", P.x.count(13), 0);
        P.due("coin(2)", P.x.coin(2), 0);
        P.due("coin(10)", P.x.coin(10), 100);
    }

    /** All twelve at once: the last bit, and the greatest COSTS. */
    private static void allTwelve() {
        P.onePair();
        P.x.number(5, 0);
        P.x.number(6, 100);
        for (int i = 0; i < 12; i++) {
            P.x.project(0, 1000000, 1000);
            P.x.gift(0, 1000000);
        }
        P.due("choice(0)", P.x.choice(0), 4095);
        P.due("build(0)", P.x.build(0), 12000000);
        P.due("coin(10)", P.x.coin(10), 0);
        P.due("count(13)", P.x.count(13), 12);
        P.due("choice(0)", P.x.choice(0), 0);
    }
}
