/** Promises 21 to 25: GIFTS, pools, PROJECTS and THE CHOICE. */
public final class CoinTest {
    private static final Probe P = new Probe();

    public static void main(String[] args) {
        gifts();
        rounding();
        years();
        twoPairs();
        lowered();
        coinOthers();
        coinOfLast();
        projects();
        choices();
        ties();
        twelve();
        builds();
        P.close("CoinTest");
    }

    private static void gifts() {
        P.onePair();
        P.due("gift(0, 0)", P.x.gift(0, 0), -1);
        P.due("gift(0, -5)", P.x.gift(0, -5), -1);
        P.due("gift(0, 1000001)", P.x.gift(0, 1000001), -1);
        P.due("gift(1, 5)", P.x.gift(1, 5), -1);
        P.due("gift(-1, 5)", P.x.gift(-1, 5), -1);
        P.due("coin(1)", P.x.coin(1), 0);
        P.due("gift(0, 1000)", P.x.gift(0, 1000), 500);
        P.due("coin(0)", P.x.coin(0), 100);
        P.due("coin(10)", P.x.coin(10), 400);
        P.due("gift(0, 1000000)", P.x.gift(0, 1000000), 4500);
        P.due("coin(0)", P.x.coin(0), 100100);
        P.due("coin(1)", P.x.coin(1), 1001000);
        P.due("coin(10)", P.x.coin(10), 1001000 - 100100 - 5000);
        P.due("coin(20)", P.x.coin(20), 5000);
        P.due("coin(40)", P.x.coin(40), 5000);
        P.x.end(0);
        P.due("gift of an ended PAIR", P.x.gift(0, 5), -1);
    }

    private static void rounding() {
        P.onePair();
        P.due("gift(0, 1)", P.x.gift(0, 1), 1);
        P.due("gift(0, 9)", P.x.gift(0, 9), 6);
        P.due("coin(0)", P.x.coin(0), 0);
        P.due("coin(10)", P.x.coin(10), 3);
        P.x.number(6, 33);
        P.x.number(5, 33);
        P.due("gift(0, 100)", P.x.gift(0, 100), 34);
        P.due("gift(0, 10)", P.x.gift(0, 10), 4);
        P.x.number(5, 67);
        P.due("gift(0, 7)", P.x.gift(0, 7), 1);
        P.due("gift(0, 100)", P.x.gift(0, 100), 0);
        P.x.number(6, 0);
        P.x.number(5, 0);
        P.due("gift(0, 70)", P.x.gift(0, 70), 70);
    }

    private static void years() {
        P.onePair();
        P.x.number(7, 10);
        P.due("gift", P.x.gift(0, 100), 10);
        P.days(359);
        P.due("gift", P.x.gift(0, 100), 0);
        P.due("coin(40)", P.x.coin(40), 10);
        P.x.day();
        P.due("coin(40)", P.x.coin(40), 0);
        P.due("gift", P.x.gift(0, 14), 8);
        P.due("gift", P.x.gift(0, 14), 2);
        P.due("coin(40)", P.x.coin(40), 10);
        P.due("coin(20)", P.x.coin(20), 20);
    }

    private static void twoPairs() {
        P.fresh();
        P.x.village(1, 0);
        P.x.village(1, 0);
        P.x.giver(0);
        P.x.child(1, 0, 0, -1);
        P.x.child(0, 0, 0, -1);
        P.x.pair(0, 0);
        P.x.pair(0, 1);
        P.x.number(7, 60);
        P.due("gift(0, 100)", P.x.gift(0, 100), 50);
        P.x.end(0);
        P.x.pair(0, 0);
        // a new PAIR of the CHILD has no year of its own
        P.due("gift(2, 100)", P.x.gift(2, 100), 10);
        P.due("gift(1, 100)", P.x.gift(1, 100), 50);
        P.due("coin(10)", P.x.coin(10), 40);
        P.due("coin(11)", P.x.coin(11), 120);
        P.due("coin(20)", P.x.coin(20), 60);
        P.due("coin(21)", P.x.coin(21), 50);
        P.due("coin(41)", P.x.coin(41), 50);
    }

    private static void lowered() {
        P.onePair();
        P.due("gift", P.x.gift(0, 1000), 500);
        P.x.number(7, 100);
        P.due("gift", P.x.gift(0, 1000), 0);
        P.due("coin(40)", P.x.coin(40), 500);
        P.due("coin(10)", P.x.coin(10), 400 + 900);
        P.x.number(7, 0);
        P.due("gift", P.x.gift(0, 10), 0);
        P.x.number(7, 501);
        P.due("gift", P.x.gift(0, 10), 1);
    }

    private static void coinOthers() {
        P.onePair();
        P.x.gift(0, 1000);
        int[] others = {-1, 3, 9, 11, 15, 16, 19, 21, 35, 36, 39, 41, 55, 56, 1000};
        for (int what : others) {
            P.due("coin(" + what + ")", P.x.coin(what), 0);
        }
    }

    /** The last VILLAGE and the last CHILD have their own. */
    private static void coinOfLast() {
        P.fresh();
        for (int v = 0; v < 6; v++) {
            P.x.village(1, 0);
        }
        P.x.giver(0);
        for (int c = 0; c < 16; c++) {
            P.x.child(5, 0, 0, -1);
        }
        P.x.pair(0, 15);
        P.x.gift(0, 10);
        P.due("coin(15)", P.x.coin(15), 4);
        P.due("coin(35)", P.x.coin(35), 5);
        P.due("coin(55)", P.x.coin(55), 5);
        P.due("coin(14)", P.x.coin(14), 0);
        P.x.project(5, 4, 1);
        P.due("choice(5)", P.x.choice(5), 1);
        P.due("build(5)", P.x.build(5), 4);
    }

    private static void projects() {
        P.onePair();
        P.due("project(1, 1, 0)", P.x.project(1, 1, 0), -1);
        P.due("project(-1, 1, 0)", P.x.project(-1, 1, 0), -1);
        P.due("project(0, 0, 0)", P.x.project(0, 0, 0), -1);
        P.due("project(0, 1000001, 0)", P.x.project(0, 1000001, 0), -1);
        P.due("project(0, 1, -1)", P.x.project(0, 1, -1), -1);
        P.due("project(0, 1, 1001)", P.x.project(0, 1, 1001), -1);
        P.due("count(12)", P.x.count(12), 0);
        P.due("project(0, 1, 0)", P.x.project(0, 1, 0), 0);
        P.due("project(0, 1000000, 1000)", P.x.project(0, 1000000, 1000), 1);
        for (int i = 2; i < 12; i++) {
            P.due("project", P.x.project(0, 1, 1), i);
        }
        P.due("project 12", P.x.project(0, 1, 1), -1);
        P.due("count(12)", P.x.count(12), 12);
    }

    /** PAIRS in two VILLAGES, with pools of 100 and 50. */
    private static void pools() {
        P.fresh();
        P.x.village(1, 0);
        P.x.village(1, 0);
        P.x.giver(0);
        P.x.child(0, 0, 0, -1);
        P.x.child(1, 0, 0, -1);
        P.x.pair(0, 0);
        P.x.pair(0, 1);
        P.x.number(5, 0);
        P.x.number(6, 100);
        P.x.gift(0, 100);
        P.x.gift(1, 50);
    }

    private static void choices() {
        pools();
        P.due("choice(-1)", P.x.choice(-1), -1);
        P.due("choice(2)", P.x.choice(2), -1);
        P.due("choice(0)", P.x.choice(0), 0);
        P.x.project(0, 101, 999);
        P.due("choice(0)", P.x.choice(0), 0);
        P.x.project(0, 60, 10);
        P.x.project(1, 40, 99);
        P.x.project(0, 50, 6);
        P.x.project(0, 50, 6);
        P.due("choice(0)", P.x.choice(0), 8 + 16);
        P.due("choice(1)", P.x.choice(1), 4);
        P.x.project(0, 40, 3);
        P.due("choice(0)", P.x.choice(0), 2 + 32);
        P.x.project(0, 10, 0);
        P.due("choice(0)", P.x.choice(0), 2 + 32);
    }

    private static void ties() {
        pools();
        P.x.project(0, 70, 5);
        P.x.project(0, 60, 5);
        P.x.project(0, 60, 5);
        P.due("least COST, then least bits", P.x.choice(0), 2);
        P.x.project(0, 30, 3);
        P.x.project(0, 30, 2);
        P.due("two for one", P.x.choice(0), 2 + 8);
        P.x.project(0, 10, 3);
        P.due("three", P.x.choice(0), 2 + 8 + 32);
        pools();
        P.x.project(0, 30, 4);
        P.x.project(0, 20, 4);
        P.x.project(0, 50, 8);
        P.x.project(0, 50, 1);
        P.due("like WORTH and COST", P.x.choice(0), 7);
        pools();
        P.x.project(0, 60, 4);
        P.x.project(0, 40, 4);
        P.x.project(0, 100, 8);
        P.due("like WORTH and COST, least bits", P.x.choice(0), 3);
        pools();
        P.x.project(0, 100, 8);
        P.x.project(0, 60, 4);
        P.x.project(0, 40, 4);
        P.due("like WORTH and COST, least bits", P.x.choice(0), 1);
    }

    private static void twelve() {
        pools();
        for (int i = 0; i < 12; i++) {
            P.x.project(0, 10, 1);
        }
        P.due("choice(0)", P.x.choice(0), 1023);
        P.due("build(0)", P.x.build(0), 100);
        P.x.gift(0, 20);
        P.due("choice(0)", P.x.choice(0), 3072);
        P.due("build(0)", P.x.build(0), 20);
        P.due("choice(0)", P.x.choice(0), 0);
        P.due("count(13)", P.x.count(13), 12);
    }

    private static void builds() {
        pools();
        P.due("build(-1)", P.x.build(-1), -1);
        P.due("build(2)", P.x.build(2), -1);
        P.due("build(0)", P.x.build(0), -1);
        P.x.project(0, 60, 10);
        P.x.project(0, 40, 5);
        P.x.project(0, 30, 6);
        P.x.project(1, 51, 1);
        P.due("build(0)", P.x.build(0), 90);
        P.due("coin(10)", P.x.coin(10), 10);
        P.due("coin(11)", P.x.coin(11), 50);
        P.due("coin(2)", P.x.coin(2), 90);
        P.due("count(13)", P.x.count(13), 2);
        P.due("build(0)", P.x.build(0), -1);
        P.due("build(1)", P.x.build(1), -1);
        P.x.gift(0, 30);
        P.due("choice(0)", P.x.choice(0), 2);
        P.due("build(0)", P.x.build(0), 40);
        P.due("coin(2)", P.x.coin(2), 130);
        P.due("coin(10)", P.x.coin(10), 0);
        P.x.gift(1, 1);
        P.due("build(1)", P.x.build(1), 51);
        P.due("count(13)", P.x.count(13), 4);
        P.due("coin(2)", P.x.coin(2), 181);
    }
}
