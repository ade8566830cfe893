/** Each bound of THE TURN in head 3 and in promise 13: TRANSLATORS, their TONGUES, numbers and WEEKDAYS. */
public final class EdgeTurnTest {
    private static final Probe P = new Probe();

    public static void main(String[] args) {
        sixTranslators();
        eighteenBitsInEach();
        numberADay();
        weekdaysOffBits();
        bitsOfTwos();
        bitsBesideKnowNothing();
        fromWhoWritesToWhoReads();
        likeTonguesAreOnTheirWay();
        theFirstSix();
        theSeventhWaits();
        atMostTheirNumber();
        offOnAWeekday();
        mostLettersFirst();
        mostKeptThen();
        latestOfThatPair();
        daysAheadOfThisOne();
        leastRowThen();
        sixForNone();
        endedAreTranslated();
        noTranslators();
        P.close("EdgeTurnTest");
    }

    /** Pairs of GIVERS of TONGUE g and CHILDREN of TONGUE c; SACKS go and come within a DAY. */
    private static void pairs(int many, int g, int c) {
        P.fresh();
        P.x.village(1, 0);
        P.x.number(0, 1);
        P.x.number(1, 127);
        P.x.number(2, 20);
        for (int i = 0; i < many; i++) {
            P.x.giver(g);
            P.x.child(0, c, 0, -1);
            P.x.pair(i, i);
        }
    }

    private static void know(int from, int to, int perDay, int off) {
        int bit = 6 * from + to;
        P.x.translator(bit < 18 ? 1 << bit : 0, bit < 18 ? 0 : 1 << bit - 18, perDay, off);
    }

    private static void dueRow(String when, int... row) {
        for (int l = 0; l < row.length; l++) {
            P.due("who TRANSLATED " + l + ", " + when, P.x.about(l, 6), row[l] == 6 ? -1 : row[l]);
            P.due("STATE of " + l + ", " + when, P.x.about(l, 0), row[l] == 6 ? 4 : 5);
        }
    }

    private static void write(int... pairs) {
        for (int p : pairs) {
            P.letter(p, 0, 1, "a");
        }
    }

    /** "TRANSLATORS 0 to 5": "6 are there". */
    private static void sixTranslators() {
        P.fresh();
        for (int i = 0; i < 6; i++) {
            P.due("translator", P.x.translator(0, 0, 1, 0), i);
        }
        P.due("translator 6", P.x.translator(0, 0, 1, 0), -1);
        P.due("count(9)", P.x.count(9), 6);
    }

    /** "36 bits in two ints ... 18 in each". */
    private static void eighteenBitsInEach() {
        int most = (1 << 18) - 1;
        for (int bits : new int[] {-1, most + 1, Integer.MIN_VALUE, Integer.MAX_VALUE}) {
            P.fresh();
            P.due("low " + bits, P.x.translator(bits, 0, 1, 0), -1);
            P.due("high " + bits, P.x.translator(0, bits, 1, 0), -1);
            P.due("count(9)", P.x.count(9), 0);
        }
        P.fresh();
        P.due("low 0, high 0", P.x.translator(0, 0, 1, 0), 0);
        P.due("low most", P.x.translator(most, 0, 1, 0), 1);
        P.due("high most", P.x.translator(0, most, 1, 0), 2);
    }

    /** "a number a DAY (1 to 4)". */
    private static void numberADay() {
        for (int n : new int[] {0, 5, -1, Integer.MIN_VALUE, Integer.MAX_VALUE}) {
            P.fresh();
            P.due("perDay " + n, P.x.translator(1, 1, n, 0), -1);
        }
        P.fresh();
        P.due("perDay 1", P.x.translator(1, 1, 1, 0), 0);
        P.due("perDay 4", P.x.translator(1, 1, 4, 0), 1);
    }

    /** "WEEKDAYS off (bits)": seven of them. */
    private static void weekdaysOffBits() {
        for (int n : new int[] {-1, 128, Integer.MIN_VALUE, Integer.MAX_VALUE}) {
            P.fresh();
            P.due("off " + n, P.x.translator(1, 1, 1, n), -1);
        }
        P.fresh();
        P.due("off 0", P.x.translator(1, 1, 1, 0), 0);
        P.due("off 127", P.x.translator(1, 1, 1, 127), 1);
    }

    /** "bit 6 times the first and the second": each of the 36, of them the 17th and the 18th on either side. */
    private static void bitsOfTwos() {
        for (int from = 0; from < 6; from++) {
            for (int to = 0; to < 6; to++) {
                if (from != to) {
                    pairs(1, from, to);
                    know(from, to, 1, 0);
                    write(0);
                    P.days(2);
                    dueRow("from " + from + " to " + to, 0);
                }
            }
        }
    }

    /** All other bits know nothing of these two. */
    private static void bitsBesideKnowNothing() {
        int most = (1 << 18) - 1;
        for (int from = 0; from < 6; from++) {
            for (int to = 0; to < 6; to++) {
                if (from != to) {
                    int bit = 6 * from + to;
                    pairs(1, from, to);
                    P.x.translator(bit < 18 ? most & ~(1 << bit) : most, bit < 18 ? most : most & ~(1 << bit - 18), 4, 0);
                    write(0);
                    P.days(2);
                    dueRow("all but from " + from + " to " + to, 6);
                }
            }
        }
    }

    /** "only from the TONGUE to the TONGUE that they know (from who writes to who reads)". */
    private static void fromWhoWritesToWhoReads() {
        pairs(1, 1, 4);
        know(4, 1, 1, 0);
        P.letter(0, 0, 1, "a");
        P.letter(0, 1, 1, "a");
        P.days(2);
        dueRow("the CHILD's alone", 6, 0);
        know(1, 4, 1, 0);
        P.x.day();
        P.due("the GIVER's", P.x.about(0, 6), 1);
    }

    /** "If TONGUES of GIVER and CHILD are unlike, it is to be TRANSLATED, else on its WAY." */
    private static void likeTonguesAreOnTheirWay() {
        for (int tongue = 0; tongue < 6; tongue++) {
            pairs(1, tongue, tongue);
            know(tongue, tongue, 4, 0);
            write(0);
            P.days(2);
            P.due("STATE of like TONGUES", P.x.about(0, 0), 5);
            P.due("who TRANSLATED it", P.x.about(0, 6), -1);
            P.due("about(0, 14)", P.x.about(0, 14), 0);
        }
    }

    /** "by the DAY on which they came there, then by numbers, the first six". */
    private static void theFirstSix() {
        pairs(1, 0, 1);
        know(0, 1, 4, 0);
        know(0, 1, 4, 0);
        write(0, 0, 0, 0, 0, 0, 0);
        P.days(2);
        dueRow("seven for eight places", 0, 0, 0, 0, 1, 1, 6);
        P.x.day();
        P.due("the seventh, a DAY on", P.x.about(6, 6), 1);
        P.due("about(6, 4)", P.x.about(6, 4), 3);
        pairs(1, 0, 1);
        know(0, 1, 4, 0);
        know(0, 1, 4, 0);
        write(0, 0, 0, 0, 0, 0);
        P.days(2);
        dueRow("six for eight places", 0, 0, 0, 0, 1, 1);
    }

    /** The seventh waits, if no one knows the TONGUES of the first six, too. */
    private static void theSeventhWaits() {
        pairs(1, 0, 1);
        P.x.giver(2);
        P.x.child(0, 1, 0, -1);
        P.x.pair(1, 1);
        know(0, 1, 4, 0);
        write(1, 1, 1, 1, 1, 0);
        P.days(2);
        dueRow("the sixth goes", 6, 6, 6, 6, 6, 0);
        write(1, 0);
        P.days(3);
        P.due("who TRANSLATED the seventh", P.x.about(7, 6), -1);
        know(2, 1, 1, 0);
        P.x.day();
        P.due("who TRANSLATED the first", P.x.about(0, 6), 1);
        P.due("who TRANSLATED the seventh", P.x.about(7, 6), -1);
        P.x.day();
        P.due("it is the sixth now", P.x.about(7, 6), 0);
    }

    /** "each at most their number of LETTERS": 1 to 4 a DAY, and as many again on the next. */
    private static void atMostTheirNumber() {
        for (int most = 1; most <= 4; most++) {
            pairs(1, 0, 1);
            know(0, 1, most, 0);
            write(0, 0, 0, 0, 0, 0);
            P.days(2);
            P.due("TRANSLATED on a DAY", P.x.count(25), most);
            P.due("STATE of the last", P.x.about(most - 1, 0), 5);
            P.due("STATE of the next", P.x.about(most, 0), 4);
            P.x.day();
            P.due("to be TRANSLATED on the next DAY", P.x.count(24), Math.max(0, 6 - 2 * most));
        }
    }

    /** "TRANSLATORS who work today": off on each WEEKDAY alone, and on all others. */
    private static void offOnAWeekday() {
        for (int weekday = 0; weekday < 7; weekday++) {
            int first = weekday < 3 ? weekday + 7 : weekday;
            pairs(1, 0, 1);
            know(0, 1, 1, 1 << weekday);
            P.days(first - 2);
            write(0);
            P.days(2);
            dueRow("off on DAY " + first, 6);
            P.x.day();
            P.due("works on DAY " + (first + 1), P.x.about(0, 6), 0);
            pairs(1, 0, 1);
            know(0, 1, 1, 127 & ~(1 << weekday));
            P.days(first - 3);
            write(0);
            P.days(2);
            dueRow("off on DAY " + (first - 1), 6);
            P.x.day();
            P.due("works on DAY " + first, P.x.about(0, 6), 0);
        }
        pairs(1, 0, 1);
        know(0, 1, 1, 127);
        write(0);
        P.days(20);
        dueRow("off on all", 6);
    }

    /** "Of all ways ...: that with most LETTERS". */
    private static void mostLettersFirst() {
        // 0 knows both, 1 knows the first alone: the least row gives 0 to the first
        pairs(1, 0, 1);
        P.x.child(0, 2, 0, -1);
        P.x.pair(0, 1);
        P.x.translator(1 << 1 | 1 << 2, 0, 1, 0);
        know(0, 1, 1, 0);
        write(0, 1);
        P.days(2);
        dueRow("both", 1, 0);
        // and more LETTERS are ahead of more that are KEPT: 0 was PAIR 0's
        write(0, 1);
        P.x.number(2, 1);
        P.days(2);
        P.due("who TRANSLATED 2", P.x.about(2, 6), 1);
    }

    /** "of like ones that with most KEPT". */
    private static void mostKeptThen() {
        pairs(2, 0, 1);
        know(0, 1, 1, 0);
        know(0, 1, 1, 0);
        write(0, 1);
        P.days(2);
        dueRow("the least row", 0, 1);
        write(1, 0);
        P.days(2);
        P.due("KEPT for PAIR 1", P.x.about(2, 6), 1);
        P.due("KEPT for PAIR 0", P.x.about(3, 6), 0);
        // two KEPT are more than the least row with one
        pairs(3, 0, 1);
        know(0, 1, 2, 0);
        know(0, 1, 1, 0);
        write(0, 1, 2);
        P.days(2);
        dueRow("the least row", 0, 0, 1);
        write(2, 1, 0);
        P.days(2);
        P.due("KEPT for PAIR 2", P.x.about(3, 6), 1);
        P.due("KEPT for PAIR 1", P.x.about(4, 6), 0);
        P.due("KEPT for PAIR 0", P.x.about(5, 6), 0);
    }

    /** "who TRANSLATED the latest one of that PAIR that was": by the order of the row, not by the least number. */
    private static void latestOfThatPair() {
        pairs(2, 0, 1);
        know(0, 1, 1, 0);
        know(0, 1, 1, 0);
        write(0, 0);
        P.days(2);
        dueRow("the least row", 0, 1);
        P.due("of(0, 4), the latest", P.x.of(0, 4), 1);
        write(1, 0);
        P.days(2);
        P.due("the least row that keeps 1 for PAIR 0", P.x.about(2, 6), 0);
        P.due("KEPT", P.x.about(3, 6), 1);
        write(0, 1);
        P.days(2);
        P.due("KEPT for PAIR 0", P.x.about(4, 6), 1);
        P.due("KEPT for PAIR 1", P.x.about(5, 6), 0);
    }

    /** "on DAYS ahead of this one": what goes on this DAY keeps nothing for the others of its PAIR. */
    private static void daysAheadOfThisOne() {
        pairs(1, 0, 1);
        know(0, 1, 1, 0);
        know(0, 1, 4, 0);
        write(0, 0, 0, 0);
        P.days(2);
        dueRow("the least row", 0, 1, 1, 1);
        P.due("of(0, 4)", P.x.of(0, 4), 1);
        write(0, 0);
        P.days(2);
        P.due("KEPT", P.x.about(4, 6), 1);
        P.due("KEPT", P.x.about(5, 6), 1);
    }

    /** "of like ones the least row". */
    private static void leastRowThen() {
        pairs(3, 0, 1);
        for (int i = 0; i < 6; i++) {
            know(0, 1, 1, 0);
        }
        write(0, 1, 2, 0, 1, 2);
        P.days(2);
        dueRow("each its own", 0, 1, 2, 3, 4, 5);
        pairs(3, 0, 1);
        know(1, 0, 4, 0);
        know(0, 1, 2, 0);
        know(0, 1, 2, 0);
        write(0, 1, 2);
        P.days(2);
        dueRow("the least that know", 1, 1, 2);
    }

    /** "(6 for none)": none is more than any TRANSLATOR, so the first of the row have one. */
    private static void sixForNone() {
        pairs(3, 0, 1);
        know(0, 1, 2, 0);
        write(0, 1, 2);
        P.days(2);
        dueRow("the first have one", 0, 0, 6);
        // 5 is less than none
        pairs(2, 0, 1);
        for (int i = 0; i < 5; i++) {
            know(1, 0, 4, 0);
        }
        know(0, 1, 1, 0);
        write(0, 1);
        P.days(2);
        dueRow("by TRANSLATOR 5", 5, 6);
    }

    /** Of a PAIR that has ENDED they are TRANSLATED, too: none but READ and COME ask for that. */
    private static void endedAreTranslated() {
        pairs(1, 0, 1);
        write(0);
        P.days(2);
        P.x.end(0);
        know(0, 1, 1, 0);
        P.x.day();
        dueRow("ENDED", 0);
        P.x.day();
        P.due("STATE when it would COME", P.x.about(0, 0), 7);
    }

    /** No TRANSLATORS, no LETTERS: a DAY goes by. */
    private static void noTranslators() {
        pairs(1, 0, 1);
        P.due("day() with neither", P.x.day(), 1);
        write(0);
        P.days(10);
        dueRow("none is there", 6);
        P.due("about(0, 14)", P.x.about(0, 14), 9);
        P.due("of(0, 4)", P.x.of(0, 4), -1);
    }
}
