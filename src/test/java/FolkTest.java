/** Promises 1 to 7, 35 and 36: a new object, VILLAGES, GIVERS, CHILDREN, PAIRS, NUMBERS, and what can be asked of them. */
public final class FolkTest {
    private static final Probe P = new Probe();
    private static final int[] WILD = {Integer.MIN_VALUE, -2, -1, 1000000007, Integer.MAX_VALUE};

    public static void main(String[] args) {
        newObject();
        villages();
        givers();
        children();
        pairs();
        fortyPairs();
        ends();
        numbers();
        pairsAsked();
        counts();
        P.close("FolkTest");
    }

    private static void newObject() {
        P.fresh();
        int[] first = {7, 2, 5, 3, 60, 10, 40, 5000};
        for (int what = -3; what < 60; what++) {
            int want = what < 0 || what > 15 && what < 20 || what == 29 || what > 37 ? -1 : what >= 30 ? first[what - 30] : 0;
            P.due("count(" + what + ")", P.x.count(what), want);
        }
        for (int wild : WILD) {
            P.due("count(" + wild + ")", P.x.count(wild), -1);
            P.due("of(" + wild + ", 0)", P.x.of(wild, 0), -1);
            P.due("about(" + wild + ", 0)", P.x.about(wild, 0), -1);
            P.due("coin(" + wild + ")", P.x.coin(wild), 0);
        }
        P.due("of(0, 0)", P.x.of(0, 0), -1);
        P.due("about(0, 0)", P.x.about(0, 0), -1);
        P.due("found(0, 0)", P.x.found(0, 0), -1);
        P.due("hints(0)", P.x.hints(0), -1);
        P.due("silent(0)", P.x.silent(0), -1);
        P.due("unlike(0)", P.x.unlike(0), -1);
        P.due("choice(0)", P.x.choice(0), -1);
        P.due("build(0)", P.x.build(0), -1);
        P.due("left(0, 0)", P.x.left(0, 0), -1);
        P.due("lose(0)", P.x.lose(0), -1);
        P.due("decide(0, true)", P.x.decide(0, true), false);
        P.due("pairing()", P.x.pairing(), 0);
        P.due("amiss(0)", P.x.amiss(0), 0);
        P.due("lag(0)", P.x.lag(0), 0);
        P.due("NONE", ChildLetters.NONE, -1);
    }

    private static void villages() {
        P.fresh();
        P.due("village(0, 0)", P.x.village(0, 0), -1);
        P.due("village(61, 0)", P.x.village(61, 0), -1);
        P.due("village(1, -1)", P.x.village(1, -1), -1);
        P.due("village(1, 4096)", P.x.village(1, 4096), -1);
        P.due("count(1)", P.x.count(1), 0);
        P.due("village(1, 0)", P.x.village(1, 0), 0);
        P.due("village(60, 4095)", P.x.village(60, 4095), 1);
        for (int i = 2; i < 6; i++) {
            P.due("village", P.x.village(5, 1), i);
        }
        P.due("village 6", P.x.village(5, 1), -1);
        P.due("count(1)", P.x.count(1), 6);
    }

    private static void givers() {
        P.fresh();
        P.due("giver(-1)", P.x.giver(-1), -1);
        P.due("giver(6)", P.x.giver(6), -1);
        for (int i = 0; i < 16; i++) {
            P.due("giver", P.x.giver(i % 6), i);
        }
        P.due("giver 16", P.x.giver(0), -1);
        P.due("count(2)", P.x.count(2), 16);
    }

    private static void children() {
        P.fresh();
        P.due("child of no village", P.x.child(0, 0, 0, -1), -1);
        P.x.village(1, 0);
        P.due("child(1, 0, 0, -1)", P.x.child(1, 0, 0, -1), -1);
        P.due("child(-1, 0, 0, -1)", P.x.child(-1, 0, 0, -1), -1);
        P.due("child(0, -1, 0, -1)", P.x.child(0, -1, 0, -1), -1);
        P.due("child(0, 6, 0, -1)", P.x.child(0, 6, 0, -1), -1);
        P.due("child(0, 0, -1, -1)", P.x.child(0, 0, -1, -1), -1);
        P.due("child(0, 0, 5, -1)", P.x.child(0, 0, 5, -1), -1);
        P.due("child(0, 0, 0, -2)", P.x.child(0, 0, 0, -2), -1);
        P.due("child(0, 0, 0, 0)", P.x.child(0, 0, 0, 0), -1);
        P.due("child(0, 5, 4, -1)", P.x.child(0, 5, 4, -1), 0);
        P.due("child(0, 0, 0, 1)", P.x.child(0, 0, 0, 1), -1);
        P.due("child(0, 0, 0, 0)", P.x.child(0, 0, 0, 0), 1);
        for (int i = 2; i < 16; i++) {
            P.due("child", P.x.child(0, 0, 0, i - 1), i);
        }
        P.due("child 16", P.x.child(0, 0, 0, -1), -1);
        P.due("count(3)", P.x.count(3), 16);
    }

    private static void some(int givers, int children) {
        P.fresh();
        P.x.village(1, 0);
        for (int i = 0; i < givers; i++) {
            P.x.giver(0);
        }
        for (int i = 0; i < children; i++) {
            P.x.child(0, 0, 0, -1);
        }
    }

    private static void pairs() {
        some(2, 4);
        P.due("pair(2, 0)", P.x.pair(2, 0), -1);
        P.due("pair(-1, 0)", P.x.pair(-1, 0), -1);
        P.due("pair(0, 4)", P.x.pair(0, 4), -1);
        P.due("pair(0, -1)", P.x.pair(0, -1), -1);
        P.due("pair(0, 0)", P.x.pair(0, 0), 0);
        P.due("pair(1, 0)", P.x.pair(1, 0), -1);
        P.due("pair(0, 1)", P.x.pair(0, 1), 1);
        P.due("pair(0, 2)", P.x.pair(0, 2), -1);
        P.due("pair(1, 2)", P.x.pair(1, 2), 2);
        P.due("end(0)", P.x.end(0), true);
        P.due("pair(0, 3)", P.x.pair(0, 3), 3);
        P.due("pair(0, 0)", P.x.pair(0, 0), -1);
        P.due("pair(1, 0)", P.x.pair(1, 0), 4);
        // a leaving that is KNOWN, of a day ahead too, till it is told that it has not left
        some(2, 2);
        P.x.leaves(0, 3599);
        P.due("pair(0, 0)", P.x.pair(0, 0), -1);
        P.due("pair(0, 1)", P.x.pair(0, 1), 0);
        P.x.leaves(0, -1);
        P.due("pair(0, 0)", P.x.pair(0, 0), 1);
    }

    private static void fortyPairs() {
        some(1, 1);
        for (int i = 0; i < 40; i++) {
            P.due("pair " + i, P.x.pair(0, 0), i);
            P.x.end(i);
        }
        P.due("pair 40", P.x.pair(0, 0), -1);
        P.due("count(4)", P.x.count(4), 40);
        P.due("count(5)", P.x.count(5), 0);
        P.due("of(39, 1)", P.x.of(39, 1), 0);
        P.due("of(40, 1)", P.x.of(40, 1), -1);
    }

    private static void ends() {
        some(1, 2);
        P.x.pair(0, 0);
        P.x.pair(0, 1);
        P.x.day();
        P.due("end(-1)", P.x.end(-1), false);
        P.due("end(2)", P.x.end(2), false);
        P.due("end(1)", P.x.end(1), true);
        P.due("end(1)", P.x.end(1), false);
        P.due("of(1, 3)", P.x.of(1, 3), 1);
        P.due("of(0, 3)", P.x.of(0, 3), -1);
        P.x.day();
        P.due("end(1)", P.x.end(1), false);
        P.due("of(1, 3)", P.x.of(1, 3), 1);
    }

    private static void numbers() {
        P.fresh();
        int[] least = {1, 1, 1, 1, 0, 0, 0, 0};
        int[] most = {60, 127, 20, 8, 400, 60, 100, 1000000};
        for (int which = 0; which < 8; which++) {
            P.due("number below", P.x.number(which, least[which] - 1), false);
            P.due("number above", P.x.number(which, most[which] + 1), false);
            P.due("number least", P.x.number(which, least[which]), true);
            P.due("count(30 + n)", P.x.count(30 + which), least[which]);
            if (which != 6) {
                P.due("number most", P.x.number(which, most[which]), true);
                P.due("count(30 + n)", P.x.count(30 + which), most[which]);
            }
        }
        P.due("number(-1, 1)", P.x.number(-1, 1), false);
        P.due("number(8, 1)", P.x.number(8, 1), false);
        P.due("number(6, 41)", P.x.number(6, 41), false);
        P.due("number(6, 40)", P.x.number(6, 40), true);
        P.due("number(5, 61)", P.x.number(5, 61), false);
        P.due("number(5, 0)", P.x.number(5, 0), true);
        P.due("number(6, 100)", P.x.number(6, 100), true);
        P.due("number(5, 1)", P.x.number(5, 1), false);
        P.due("count(35)", P.x.count(35), 0);
        P.due("number(6, 0)", P.x.number(6, 0), true);
        P.due("number(5, 100)", P.x.number(5, 100), true);
        P.due("number(5, 101)", P.x.number(5, 101), false);
        for (int wild : WILD) {
            P.due("number(wild, 1)", P.x.number(wild, 1), false);
            P.due("number(4, wild)", P.x.number(4, wild), false);
            P.due("number(5, wild)", P.x.number(5, wild), false);
        }
    }

    private static void pairsAsked() {
        some(2, 2);
        P.days(3);
        P.x.pair(1, 0);
        int[] want = {1, 0, 3, -1, -1, 0};
        for (int what = 0; what < 6; what++) {
            P.due("of(0, " + what + ")", P.x.of(0, what), want[what]);
        }
        P.due("of(0, -1)", P.x.of(0, -1), -1);
        P.due("of(0, 6)", P.x.of(0, 6), -1);
        P.due("of(1, 0)", P.x.of(1, 0), -1);
        P.letter(0, 0, 1, "a");
        P.letter(0, 1, 1, "a");
        P.due("of(0, 5)", P.x.of(0, 5), 2);
        P.x.end(0);
        P.due("of(0, 0)", P.x.of(0, 0), 1);
        P.due("of(0, 5)", P.x.of(0, 5), 2);
    }

    private static void counts() {
        P.onePair();
        P.rules("c:a;h:b");
        P.letter(0, 0, 1, "c");
        P.x.project(0, 5, 1);
        P.x.project(0, 6, 1);
        P.x.gift(0, 100);
        P.x.build(0);
        P.x.translator(1, 1, 1, 1);
        P.x.wish(0, 1, 1);
        P.x.day();
        P.letter(0, 1, 1, "d");
        P.x.leaves(0, -1);
        P.put("rest");
        int[] want = {1, 1, 1, 1, 1, 1, 2, 1, 1, 1, 2, 20, 2, 2, 1, 1};
        for (int what = 0; what < want.length; what++) {
            P.due("count(" + what + ")", P.x.count(what), want[what]);
        }
        P.due("count(20)", P.x.count(20), 1);
        P.due("count(21)", P.x.count(21), 1);
        P.due("count(22)", P.x.count(22), 0);
    }
}
