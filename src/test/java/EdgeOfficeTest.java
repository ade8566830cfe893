import java.util.function.IntUnaryOperator;

/** Each bound in the Terms and in promises 1 to 7, 35 and 36: the last value that is taken, the first that isn't. */
public final class EdgeOfficeTest {
    private static final Probe P = new Probe();

    public static void main(String[] args) {
        daysFromZeroTo3599();
        monthIsThirtyDays();
        weekdayIsDayModuloSeven();
        yearIs360Days();
        tonguesZeroToFive();
        wayOneToSixty();
        floodOfTwelveMonths();
        sixVillages();
        sixteenGivers();
        sixteenChildren();
        ageZeroToFour();
        villageOfChildIsThere();
        siblingOfLowerNumber();
        noSibling();
        childInOnePair();
        giverInTwoPairs();
        pairsZeroTo39();
        pairFromThisDayOn();
        noPairOfOneThatLeft();
        pairOfSuchTwo();
        endsOnce();
        numbersAtFirst();
        numbersBounds();
        notAboveHundredTogether();
        noNinthNumber();
        ofBounds();
        countBounds();
        countsStates();
        countsPairs();
        P.close("EdgeOfficeTest");
    }

    /** Each value on an office made anew: the first and the last are taken, those beside them are not. */
    private static void bounds(String call, Runnable state, IntUnaryOperator asked, int first, int last) {
        int[] taken = {first, last};
        for (int n : taken) {
            state.run();
            P.due(call + " of " + n + " is taken", asked.applyAsInt(n) >= 0, true);
        }
        int[] refused = {first - 1, last + 1, Integer.MIN_VALUE, Integer.MAX_VALUE};
        for (int n : refused) {
            state.run();
            P.due(call + " of " + n, asked.applyAsInt(n), -1);
        }
    }

    private static int taken(boolean answer) {
        return answer ? 1 : -1;
    }

    private static void oneVillage() {
        P.fresh();
        P.x.village(1, 0);
    }

    private static void some(int givers, int children) {
        oneVillage();
        for (int i = 0; i < givers; i++) {
            P.x.giver(0);
        }
        for (int i = 0; i < children; i++) {
            P.x.child(0, 0, 0, -1);
        }
    }

    /** "DAYS 0 to 3599; it is one of them (0 at first)." */
    private static void daysFromZeroTo3599() {
        P.fresh();
        P.due("count(0)", P.x.count(0), 0);
        for (int day = 1; day <= 3599; day++) {
            P.due("day()", P.x.day(), day);
        }
        P.due("day() above 3599", P.x.day(), -1);
        P.due("day() above 3599", P.x.day(), -1);
        P.due("count(0)", P.x.count(0), 3599);
    }

    /** "MONTH is DAY / 30": the last DAY of one, the first of the next. */
    private static void monthIsThirtyDays() {
        P.onePair();
        int[][] silent = {{29, 0}, {30, 1}, {59, 1}, {60, 2}, {359, 11}, {360, 12}, {389, 12}, {390, 13}};
        for (int[] row : silent) {
            P.days(row[0] - P.x.count(0));
            P.due("silent(0) on DAY " + row[0], P.x.silent(0), row[1]);
        }
    }

    /** "WEEKDAY DAY modulo 7": each bit of it, the first and the second time. */
    private static void weekdayIsDayModuloSeven() {
        for (int weekday = 0; weekday < 7; weekday++) {
            P.onePair();
            P.x.number(0, 60);
            P.x.number(1, 1 << weekday);
            int first = weekday == 0 ? 7 : weekday;
            P.letter(0, 0, 1, "a");
            P.days(first - 1);
            P.due("count(7) on DAY " + (first - 1), P.x.count(7), 0);
            P.x.day();
            P.due("count(7) on DAY " + first, P.x.count(7), 1);
            P.letter(0, 0, 1, "a");
            P.days(6);
            P.due("count(7) on DAY " + (first + 6), P.x.count(7), 1);
            P.x.day();
            P.due("count(7) on DAY " + (first + 7), P.x.count(7), 2);
        }
    }

    /** "YEAR DAY / 360": the last DAY of one, the first of the next. */
    private static void yearIs360Days() {
        P.onePair();
        P.x.gift(0, 10);
        P.days(359);
        P.due("coin(40) on DAY 359", P.x.coin(40), 5);
        P.x.day();
        P.due("coin(40) on DAY 360", P.x.coin(40), 0);
        P.x.gift(0, 20);
        P.days(359);
        P.due("coin(40) on DAY 719", P.x.coin(40), 10);
        P.x.day();
        P.due("coin(40) on DAY 720", P.x.coin(40), 0);
        P.due("coin(20)", P.x.coin(20), 15);
    }

    /** "TONGUES 0 to 5." */
    private static void tonguesZeroToFive() {
        bounds("giver", P::fresh, n -> P.x.giver(n), 0, 5);
        bounds("TONGUE of a child", EdgeOfficeTest::oneVillage, n -> P.x.child(0, n, 0, -1), 0, 5);
    }

    /** "a WAY of DAYS (1 to 60)". */
    private static void wayOneToSixty() {
        bounds("WAY of a village", P::fresh, n -> P.x.village(n, 0), 1, 60);
    }

    /** "months of a year ... in which there is FLOOD (bits)": twelve of them. */
    private static void floodOfTwelveMonths() {
        bounds("FLOOD of a village", P::fresh, n -> P.x.village(1, n), 0, 4095);
    }

    /** "VILLAGES 0 to 5": "6 are there". */
    private static void sixVillages() {
        P.fresh();
        for (int i = 0; i < 6; i++) {
            P.due("village", P.x.village(1, 0), i);
        }
        P.due("village 6", P.x.village(1, 0), -1);
        P.due("count(1)", P.x.count(1), 6);
        P.due("child of VILLAGE 5", P.x.child(5, 0, 0, -1), 0);
        P.due("child of VILLAGE 6", P.x.child(6, 0, 0, -1), -1);
    }

    /** "GIVERS 0 to 15": "16 are there". */
    private static void sixteenGivers() {
        P.fresh();
        for (int i = 0; i < 16; i++) {
            P.due("giver", P.x.giver(0), i);
        }
        P.due("giver 16", P.x.giver(0), -1);
        P.due("count(2)", P.x.count(2), 16);
        P.due("wish(15, 0, 0)", P.x.wish(15, 0, 0), true);
        P.due("wish(16, 0, 0)", P.x.wish(16, 0, 0), false);
    }

    /** "CHILDREN 0 to 15": "16 are there". */
    private static void sixteenChildren() {
        oneVillage();
        for (int i = 0; i < 16; i++) {
            P.due("child", P.x.child(0, 0, 0, -1), i);
        }
        P.due("child 16", P.x.child(0, 0, 0, -1), -1);
        P.due("count(3)", P.x.count(3), 16);
        P.due("leaves(15, 0)", P.x.leaves(15, 0), true);
        P.due("leaves(16, 0)", P.x.leaves(16, 0), false);
    }

    /** "an AGE (0 to 4)". */
    private static void ageZeroToFour() {
        bounds("AGE of a child", EdgeOfficeTest::oneVillage, n -> P.x.child(0, 0, n, -1), 0, 4);
    }

    /** A CHILD's VILLAGE is one that is there. */
    private static void villageOfChildIsThere() {
        P.fresh();
        P.due("child of no VILLAGE", P.x.child(0, 0, 0, -1), -1);
        P.x.village(1, 0);
        P.due("child of the first", P.x.child(0, 0, 0, -1), 0);
        P.due("child of the next", P.x.child(1, 0, 0, -1), -1);
        P.x.village(1, 0);
        P.due("child of the next, there now", P.x.child(1, 0, 0, -1), 1);
        P.due("child(-1, 0, 0, -1)", P.x.child(-1, 0, 0, -1), -1);
    }

    /** "a SIBLING (a CHILD of a lower number; none)". */
    private static void siblingOfLowerNumber() {
        oneVillage();
        P.due("child 0, SIBLING 0", P.x.child(0, 0, 0, 0), -1);
        P.due("child 0, none", P.x.child(0, 0, 0, -1), 0);
        for (int c = 1; c < 16; c++) {
            P.due("child " + c + ", SIBLING itself", P.x.child(0, 0, 0, c), -1);
            P.due("child " + c + ", SIBLING ahead", P.x.child(0, 0, 0, c - 1), c);
        }
    }

    /** None is -1 alone. */
    private static void noSibling() {
        oneVillage();
        P.due("SIBLING -2", P.x.child(0, 0, 0, -2), -1);
        P.due("SIBLING least", P.x.child(0, 0, 0, Integer.MIN_VALUE), -1);
        P.due("SIBLING -1", P.x.child(0, 0, 0, -1), 0);
    }

    /** "A CHILD is in one PAIR that has not ENDED, at most". */
    private static void childInOnePair() {
        some(2, 1);
        P.due("pair(0, 0)", P.x.pair(0, 0), 0);
        P.due("pair(0, 0) again", P.x.pair(0, 0), -1);
        P.due("pair(1, 0)", P.x.pair(1, 0), -1);
        P.x.end(0);
        P.due("pair(1, 0) when that has ENDED", P.x.pair(1, 0), 1);
        P.due("pair(0, 0) with another open", P.x.pair(0, 0), -1);
    }

    /** "a GIVER in two". */
    private static void giverInTwoPairs() {
        some(1, 3);
        P.due("one", P.x.pair(0, 0), 0);
        P.due("two", P.x.pair(0, 1), 1);
        P.due("three", P.x.pair(0, 2), -1);
        P.due("count(4)", P.x.count(4), 2);
        P.x.end(1);
        P.due("three when one has ENDED", P.x.pair(0, 2), 2);
        P.due("one more", P.x.pair(0, 1), -1);
    }

    /** "PAIRS 0 to 39": "40 are there", ENDED ones too. */
    private static void pairsZeroTo39() {
        some(2, 2);
        for (int p = 0; p < 39; p++) {
            P.due("pair", P.x.pair(0, 0), p);
            P.x.end(p);
        }
        P.due("pair 39", P.x.pair(0, 0), 39);
        P.due("pair 40", P.x.pair(1, 1), -1);
        P.due("count(4)", P.x.count(4), 40);
        P.due("count(5)", P.x.count(5), 1);
        P.due("end(40)", P.x.end(40), false);
        P.due("end(39)", P.x.end(39), true);
        P.due("pair 40", P.x.pair(1, 1), -1);
    }

    /** "A PAIR from this DAY on". */
    private static void pairFromThisDayOn() {
        some(1, 2);
        P.x.pair(0, 0);
        P.x.day();
        P.x.pair(0, 1);
        P.due("of(0, 2)", P.x.of(0, 2), 0);
        P.due("of(1, 2)", P.x.of(1, 2), 1);
    }

    /** "a leaving of the CHILD is KNOWN": of DAY 0, of DAY 3599, not if it has not left. */
    private static void noPairOfOneThatLeft() {
        some(1, 1);
        P.days(2);
        for (int day : new int[] {0, 2, 3, 3599}) {
            P.x.leaves(0, day);
            P.due("pair of one that leaves on DAY " + day, P.x.pair(0, 0), -1);
        }
        P.x.leaves(0, -1);
        P.due("pair of one that has not", P.x.pair(0, 0), 0);
    }

    /** "no such two". */
    private static void pairOfSuchTwo() {
        some(2, 3);
        P.due("pair(-1, 0)", P.x.pair(-1, 0), -1);
        P.due("pair(2, 0)", P.x.pair(2, 0), -1);
        P.due("pair(0, -1)", P.x.pair(0, -1), -1);
        P.due("pair(0, 3)", P.x.pair(0, 3), -1);
        P.due("count(4)", P.x.count(4), 0);
        P.due("pair(1, 2)", P.x.pair(1, 2), 0);
    }

    /** "PAIR p ENDS: true; false: no such one, it has." */
    private static void endsOnce() {
        some(1, 1);
        P.due("end(0) of none", P.x.end(0), false);
        P.x.pair(0, 0);
        P.due("end(-1)", P.x.end(-1), false);
        P.due("end(1)", P.x.end(1), false);
        P.due("of(0, 3)", P.x.of(0, 3), -1);
        P.due("end(0)", P.x.end(0), true);
        P.due("of(0, 3)", P.x.of(0, 3), 0);
        P.x.day();
        P.due("end(0), it has", P.x.end(0), false);
        P.due("of(0, 3)", P.x.of(0, 3), 0);
    }

    /** "7 at first", "2", "5", "3", "60", "10 and 40", "5000". */
    private static void numbersAtFirst() {
        P.fresh();
        int[] first = {7, 2, 5, 3, 60, 10, 40, 5000};
        for (int n = 0; n < 8; n++) {
            P.due("count(30 + " + n + ")", P.x.count(30 + n), first[n]);
        }
    }

    /** "1 to 60", "1 to 127", "1 to 20", "1 to 8", "0 to 400", "0 to 100" twice, "0 to 1000000". */
    private static void numbersBounds() {
        int[] least = {1, 1, 1, 1, 0, 0, 0, 0};
        int[] most = {60, 127, 20, 8, 400, 100, 100, 1000000};
        for (int which = 0; which < 8; which++) {
            int w = which;
            Runnable state = () -> {
                P.fresh();
                P.x.number(5, 0);
                P.x.number(6, 0);
            };
            bounds("number " + w, state, n -> taken(P.x.number(w, n)), least[w], most[w]);
            state.run();
            P.x.number(w, most[w]);
            P.due("count(30 + " + w + ")", P.x.count(30 + w), most[w]);
            P.x.number(w, most[w] + 1);
            P.due("count(30 + " + w + ")", P.x.count(30 + w), most[w]);
            P.x.number(w, least[w]);
            P.due("count(30 + " + w + ")", P.x.count(30 + w), least[w]);
            P.x.number(w, least[w] - 1);
            P.due("count(30 + " + w + ")", P.x.count(30 + w), least[w]);
        }
    }

    /** "not above 100 together". */
    private static void notAboveHundredTogether() {
        for (int v = 0; v <= 100; v += 20) {
            P.fresh();
            P.x.number(5, 0);
            P.due("number(6, " + v + ")", P.x.number(6, v), true);
            P.due("number(5, above)", P.x.number(5, 101 - v), false);
            P.due("count(35)", P.x.count(35), 0);
            P.due("number(5, just)", P.x.number(5, 100 - v), true);
            P.due("number(6, one more)", P.x.number(6, v + 1), false);
            P.due("count(36)", P.x.count(36), v);
            P.due("number(6, the same)", P.x.number(6, v), true);
        }
    }

    /** NUMBERS 0 to 7. */
    private static void noNinthNumber() {
        P.fresh();
        P.due("number(-1, 1)", P.x.number(-1, 1), false);
        P.due("number(0, 1)", P.x.number(0, 1), true);
        P.due("number(7, 1)", P.x.number(7, 1), true);
        P.due("number(8, 1)", P.x.number(8, 1), false);
    }

    /** "Of PAIR p, what 0 .. 5 ... NONE for others." */
    private static void ofBounds() {
        some(1, 2);
        P.x.pair(0, 0);
        P.days(3);
        P.x.pair(0, 1);
        P.due("of(1, -1)", P.x.of(1, -1), -1);
        P.due("of(1, 0)", P.x.of(1, 0), 0);
        P.due("of(1, 5)", P.x.of(1, 5), 0);
        P.due("of(1, 6)", P.x.of(1, 6), -1);
        P.due("of(-1, 2)", P.x.of(-1, 2), -1);
        P.due("of(0, 2)", P.x.of(0, 2), 0);
        P.due("of(1, 2)", P.x.of(1, 2), 3);
        P.due("of(2, 2)", P.x.of(2, 2), -1);
    }

    /** "NONE for others": 16 to 19, 29, and beyond 37. */
    private static void countBounds() {
        P.fresh();
        for (int what : new int[] {-1, 16, 19, 29, 38, 39, Integer.MIN_VALUE, Integer.MAX_VALUE}) {
            P.due("count(" + what + ")", P.x.count(what), -1);
        }
        for (int what : new int[] {0, 15, 20, 28}) {
            P.due("count(" + what + ")", P.x.count(what), 0);
        }
        P.due("count(30)", P.x.count(30), 7);
        P.due("count(37)", P.x.count(37), 5000);
    }

    /** "4 PAIRS, 5 those that have not ENDED": none, the first, the last, all. */
    private static void countsPairs() {
        some(2, 3);
        P.due("count(5) of none", P.x.count(5), 0);
        P.x.pair(0, 0);
        P.x.pair(0, 1);
        P.x.pair(1, 2);
        P.due("count(5) of all", P.x.count(5), 3);
        P.x.end(2);
        P.due("count(5) without the last", P.x.count(5), 2);
        P.x.end(0);
        P.due("count(5) without the first", P.x.count(5), 1);
        P.x.leaves(1, 0);
        P.due("count(5) of none", P.x.count(5), 0);
        P.due("count(4)", P.x.count(4), 3);
    }

    /** "20 + s LETTERS in STATE s (0 to 8)": the first and the last STATE. */
    private static void countsStates() {
        P.onePair();
        P.letter(0, 0, 1, "a");
        P.due("count(20)", P.x.count(20), 1);
        P.due("count(28)", P.x.count(28), 0);
        P.x.day();
        P.x.lose(0);
        P.due("count(20)", P.x.count(20), 0);
        P.due("count(28)", P.x.count(28), 1);
    }
}
