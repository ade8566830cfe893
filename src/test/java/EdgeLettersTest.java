/** Each bound in head 3 and in promises 12 and 14 to 20, but THE TURN: LETTERS, SACKS, HINTS, HANDS, DAYS and LAG. */
public final class EdgeLettersTest {
    private static final Probe P = new Probe();

    public static void main(String[] args) {
        lettersOfAnOpenPair();
        letters0To199();
        byGiverOrChild();
        marks0To99();
        sackDays();
        sackDaysOfTheDayOnWhichTheyWent();
        theFirstR();
        byTheDayThenByNumbers();
        readOfEnded();
        someSendBack();
        kKindsOrMore();
        thoseOfThisLetterToo();
        hintsToldFromThenOn();
        cutAtTheEnds();
        cutMakesLonger();
        threeLettersOrMore();
        moreThanNTimesF();
        unlikeBothWays();
        asThatOne();
        fZeroAnd400();
        wayOrMore();
        floodThisMonth();
        monthModulo12();
        endedAreBackInstead();
        oneSackForAll();
        lagByState();
        daysOfALetter();
        heldAlone();
        heldByRulesOfThen();
        sackOnItsWay();
        aboutBounds();
        aboutText();
        hintsUnlikeLagBounds();
        P.close("EdgeLettersTest");
    }

    private static void dueState(String when, int l, int want) {
        P.due("STATE of " + l + ", " + when, P.x.about(l, 0), want);
    }

    /** A LETTER of the GIVER of PAIR 0 that is READ on the second DAY behind. */
    private static int read(String text, int mark) {
        int l = P.letter(0, 0, mark, text);
        P.days(2);
        return l;
    }

    /** "LETTERS ... of a PAIR that has not ENDED". */
    private static void lettersOfAnOpenPair() {
        P.onePair();
        P.put("a");
        P.due("letter of PAIR -1", P.x.letter(-1, 0, 1, 1, 1, 1, 1), -1);
        P.due("letter of PAIR 1", P.x.letter(1, 0, 1, 1, 1, 1, 1), -1);
        P.due("count(11), the tape stays", P.x.count(11), 20);
        P.due("letter of PAIR 0", P.x.letter(0, 0, 1, 1, 1, 1, 1), 0);
        P.x.end(0);
        P.put("a");
        P.due("letter of one that has ENDED", P.x.letter(0, 0, 1, 1, 1, 1, 1), -1);
        P.due("count(11), the tape stays", P.x.count(11), 20);
        P.due("of(0, 5)", P.x.of(0, 5), 1);
    }

    /** "LETTERS 0 to 199": "200 are there (the tape stays)". */
    private static void letters0To199() {
        P.onePair();
        for (int l = 0; l < 200; l++) {
            P.due("letter", P.letter(0, 0, 1, "a"), l);
        }
        P.put("a");
        P.due("letter 200", P.x.letter(0, 0, 1, 1, 1, 1, 1), -1);
        P.due("count(11)", P.x.count(11), 20);
        P.due("count(6)", P.x.count(6), 200);
        P.due("of(0, 5)", P.x.of(0, 5), 200);
        P.due("about(199, 0)", P.x.about(199, 0), 0);
        P.due("about(200, 0)", P.x.about(200, 0), -1);
        P.x.day();
        P.due("lose(0)", P.x.lose(0), 200);
        P.due("count(28)", P.x.count(28), 200);
        // one that is LOST makes no place
        P.due("letter 200", P.x.letter(0, 0, 1, 1, 1, 1, 1), -1);
    }

    /** "by its GIVER (0) or its CHILD (1)". */
    private static void byGiverOrChild() {
        P.onePair();
        for (int by : new int[] {-1, 2, Integer.MIN_VALUE, Integer.MAX_VALUE}) {
            P.x.rules(1);
            P.put("a");
            P.due("letter by " + by, P.x.letter(0, by, 1, 1, 1, 1, 1), -1);
        }
        P.x.rules(1);
        P.due("letter by 0", P.letter(0, 0, 1, "a"), 0);
        P.due("letter by 1", P.letter(0, 1, 1, "a"), 1);
        P.due("about(0, 2)", P.x.about(0, 2), 0);
        P.due("about(1, 2)", P.x.about(1, 2), 1);
    }

    /** "four MARKS of the hand (0 to 99 each)". */
    private static void marks0To99() {
        for (int place = 0; place < 4; place++) {
            for (int mark : new int[] {-1, 100, Integer.MIN_VALUE, Integer.MAX_VALUE, 0, 99}) {
                int[] m = {50, 50, 50, 50};
                m[place] = mark;
                P.onePair();
                P.put("a");
                boolean taken = mark == 0 || mark == 99;
                P.due("MARK " + place + " of " + mark, P.x.letter(0, 0, m[0], m[1], m[2], m[3], 1), taken ? 0 : -1);
                P.due("count(11)", P.x.count(11), taken ? 0 : 20);
            }
        }
    }

    /** "SACKS that went t DAYS ago ..., or longer, are there". */
    private static void sackDays() {
        for (int t : new int[] {1, 2, 7, 60}) {
            P.onePair();
            P.x.number(0, t);
            P.letter(0, 0, 1, "a");
            P.days(t);
            dueState("on its " + t + "th DAY", 0, 1);
            P.due("count(8)", P.x.count(8), 1);
            P.x.day();
            dueState("t DAYS behind", 0, 5);
            P.due("about(0, 11)", P.x.about(0, 11), t);
            P.due("about(0, 12)", P.x.about(0, 12), 0);
            P.due("count(8)", P.x.count(8), 0);
        }
    }

    /** "(t of the DAY on which they went)". */
    private static void sackDaysOfTheDayOnWhichTheyWent() {
        P.onePair();
        P.x.number(0, 3);
        P.letter(0, 0, 1, "a");
        P.x.number(0, 2);
        P.x.day();
        P.x.number(0, 1);
        P.x.day();
        dueState("not t of now", 0, 1);
        P.x.number(0, 60);
        P.x.day();
        dueState("t of then, not of when it was written", 0, 5);
    }

    /** "the first r LETTERS that are to be READ": 1 and 20. */
    private static void theFirstR() {
        for (int r : new int[] {1, 5, 20}) {
            P.onePair();
            P.x.number(2, r);
            for (int i = 0; i <= r; i++) {
                P.letter(0, 0, 1, "a");
            }
            P.days(2);
            P.due("READ of " + (r + 1), P.x.count(25), r);
            P.due("not READ", P.x.count(22), 1);
            dueState("the last is not", r, 2);
            P.x.day();
            dueState("it is, a DAY on", r, 5);
        }
    }

    /** "by the DAY on which they came there, then by numbers". */
    private static void byTheDayThenByNumbers() {
        P.onePair();
        P.x.number(2, 1);
        P.x.number(0, 2);
        P.letter(0, 0, 1, "a");
        P.letter(0, 0, 1, "b");
        P.x.day();
        P.x.number(0, 1);
        P.letter(0, 0, 1, "c");
        P.letter(0, 0, 1, "d");
        P.x.day();
        // both SACKS are there on DAY 3: by numbers
        int[] states = {5, 2, 2, 2};
        P.x.day();
        for (int l = 0; l < 4; l++) {
            dueState("DAY 3", l, states[l]);
        }
        P.onePair();
        P.x.number(2, 1);
        P.x.number(0, 3);
        P.letter(0, 0, 1, "a");
        P.x.day();
        P.x.number(0, 1);
        P.letter(0, 0, 1, "b");
        P.letter(0, 0, 1, "c");
        P.days(2);
        dueState("DAY 3, the first there", 1, 5);
        dueState("DAY 3, the second there", 2, 2);
        P.x.day();
        // 0 came today, 2 a DAY ahead of it
        dueState("DAY 4", 2, 5);
        dueState("DAY 4", 0, 2);
    }

    /** "of a PAIR that has ENDED: BACK", and one of the r is used for it. */
    private static void readOfEnded() {
        P.onePair();
        P.rules("n1:a;h:b;c:c");
        P.x.number(2, 3);
        P.letter(0, 0, 1, "abc");
        P.letter(0, 1, 1, "ac");
        P.letter(0, 1, 1, "c");
        P.letter(0, 1, 1, "d");
        P.x.day();
        P.x.end(0);
        P.x.day();
        for (int l = 0; l < 3; l++) {
            dueState("ENDED", l, 7);
        }
        dueState("the fourth", 3, 2);
        P.due("hints(0)", P.x.hints(0), 0);
        P.due("about(2, 8)", P.x.about(2, 8), 0);
        P.dueText("TEXT", P.textOf(0), "abc");
    }

    /** "FINDS tell: some r: BACK. Else if some h": r is ahead of h, and h of c. */
    private static void someSendBack() {
        P.onePair();
        P.rules("c:c;h:h;r:r");
        dueState("r", read("ccchr", 1), 7);
        dueState("h", read("ccch", 1), 3);
        dueState("c", read("ccc", 1), 5);
        dueState("none", read("x", 1), 5);
        P.due("hints(0), none of c, h and r", P.x.hints(0), 0);
        // a sign that another FIND has taken sends nothing back
        P.rules("c:cr;r:r");
        dueState("r in another FIND", read("cr", 1), 5);
        dueState("r beside it", read("crr", 1), 7);
    }

    /** "the PAIR has k kinds of HINTS or more": one less, just as many, more; k of 1 and of 8. */
    private static void kKindsOrMore() {
        String rules = "n0:a;n1:b;n2:c;n3:d;n4:e;n5:f;n6:g;n7:h";
        String all = "abcdefgh";
        for (int k = 1; k <= 8; k++) {
            P.onePair();
            P.rules(rules);
            P.x.number(3, k);
            String ahead = all.substring(0, k - 1);
            int less = k > 1 ? read(ahead, 1) : read("z", 1);
            dueState(k - 1 + " kinds of " + k, less, 5);
            P.due("hints(0)", P.x.hints(0), (1 << k - 1) - 1);
            int just = read(all.substring(k - 1, k), 1);
            dueState(k + " kinds of " + k, just, 3);
            P.due("hints(0)", P.x.hints(0), (1 << k - 1) - 1);
            P.x.decide(just, true);
            P.due("hints(0) when it PASSES", P.x.hints(0), (1 << k) - 1);
            dueState("with k kinds ahead", read("z", 1), 3);
            dueState("one kind again, with k ahead", read("a", 1), 3);
            if (k < 8) {
                P.x.number(3, k + 1);
                dueState("with k + 1", read("z", 1), 5);
            }
        }
    }

    /** "those of this LETTER too": of one LETTER alone, each kind once, and of PAIRS each for itself. */
    private static void thoseOfThisLetterToo() {
        P.onePair();
        P.x.child(0, 0, 0, -1);
        P.x.pair(0, 1);
        P.rules("n0:a;n7:b;n7:c");
        P.x.number(3, 2);
        dueState("one kind twice", read("aa", 1), 5);
        dueState("two with what was told", read("b", 1), 3);
        P.letter(1, 0, 1, "bc");
        P.letter(1, 0, 1, "ab");
        P.days(2);
        dueState("one kind by two RULES, in another PAIR", 2, 5);
        dueState("two at once", 3, 3);
        P.due("hints(0)", P.x.hints(0), 1);
        P.due("hints(1)", P.x.hints(1), 128);
    }

    /** "HINTS of its FINDS are told of the PAIR from then on": the next one on the same DAY knows them. */
    private static void hintsToldFromThenOn() {
        P.onePair();
        P.rules("n0:a;n1:b");
        P.x.number(3, 2);
        P.letter(0, 0, 1, "a");
        P.letter(0, 1, 1, "b");
        P.x.day();
        P.due("hints(0) ahead", P.x.hints(0), 0);
        P.x.day();
        dueState("the first", 0, 5);
        dueState("the second, by the CHILD", 1, 3);
        P.due("hints(0)", P.x.hints(0), 1);
    }

    /** "FINDS c are cut out of the TEXT (an x for each FIND)": at its ends, all of it, side by side. */
    private static void cutAtTheEnds() {
        P.onePair();
        P.rules("c:a+;n1:b");
        String[][] texts = {{"a", "x", "1"}, {"aaaz", "xz", "1"}, {"zaaa", "zx", "1"}, {"azaza", "xzxzx", "3"}, {"zz", "zz", "0"},
            {"bab", "bxb", "1"}, {"a\na", "x\nx", "2"}, {"x", "x", "0"}};
        for (String[] row : texts) {
            int l = read(row[0], 1);
            P.dueText("cut of " + row[0], P.textOf(l), row[1]);
            P.due("about(l, 7)", P.x.about(l, 7), row[1].length());
            P.due("about(l, 8)", P.x.about(l, 8), Integer.parseInt(row[2]));
            P.due("behind the TEXT", P.x.about(l, 20 + row[1].length()), -1);
        }
        P.rules("c:ab");
        int l = read("ab".repeat(80), 1);
        P.dueText("cut of 80", P.textOf(l), "x".repeat(80));
        P.due("about(l, 8)", P.x.about(l, 8), 80);
        P.due("about(l, 99)", P.x.about(l, 99), 'x');
        P.due("about(l, 100)", P.x.about(l, 100), -1);
    }

    /** A FIND of one sign is cut, too: the TEXT is as long as it was. */
    private static void cutMakesLonger() {
        P.onePair();
        P.rules("c:.");
        int l = read("a".repeat(160), 1);
        P.dueText("cut of each", P.textOf(l), "x".repeat(160));
        P.due("about(l, 8)", P.x.about(l, 8), 160);
        P.rules("c:.+");
        l = read("a".repeat(160), 1);
        P.dueText("cut of all", P.textOf(l), "x");
        P.due("about(l, 7)", P.x.about(l, 7), 1);
    }

    /** "three LETTERS or more of who wrote it (as that one) have PASSED". */
    private static void threeLettersOrMore() {
        P.onePair();
        P.x.number(4, 0);
        int odd = P.letter(0, 0, 99, "odd");
        int childs = P.letter(0, 1, 99, "odd");
        P.days(2);
        // it PASSED itself: it is the first of three
        P.due("unlike of one", P.x.unlike(odd), 0);
        read("a", 10);
        P.due("unlike of two", P.x.unlike(odd), 0);
        int third = P.letter(0, 0, 10, "a");
        P.x.day();
        P.due("unlike of two, the third not READ", P.x.unlike(odd), 0);
        P.x.day();
        dueState("the third PASSED", third, 5);
        P.due("unlike of three", P.x.unlike(odd), 1);
        P.due("unlike of the CHILD's", P.x.unlike(childs), 0);
        // HELD ones and those sent BACK have not PASSED
        P.onePair();
        P.x.number(4, 0);
        P.rules("h:h;r:r");
        read("a", 1);
        read("a", 1);
        read("r", 1);
        int held = read("h", 1);
        int other = P.letter(0, 0, 2, "a");
        P.due("unlike of two and a HELD one", P.x.unlike(other), 0);
        P.x.decide(held, true);
        P.due("unlike of three", P.x.unlike(other), 1);
    }

    /** "together more than n times f": just as much is not, one more is; with n of 3 and of 4. */
    private static void moreThanNTimesF() {
        P.onePair();
        P.x.number(4, 10);
        for (int i = 0; i < 3; i++) {
            read("a", 50);
        }
        int[][] marks = {{60, 50, 50, 50, 0}, {61, 50, 50, 50, 1}, {55, 45, 50, 50, 0}, {55, 45, 51, 50, 1}, {48, 53, 47, 48, 0},
            {48, 53, 47, 47, 1}, {50, 50, 50, 39, 1}, {50, 50, 50, 40, 0}};
        for (int[] m : marks) {
            P.put("a");
            int l = P.x.letter(0, 0, m[0], m[1], m[2], m[3], 1);
            P.due("unlike " + m[0] + " " + m[1] + " " + m[2] + " " + m[3], P.x.unlike(l), m[4]);
        }
        // sums of MARKS that n does not divide: 3 * 50 - (50 + 50 + 51) = 1 each, together 4
        P.onePair();
        read("a", 50);
        read("a", 50);
        read("a", 51);
        int l = P.letter(0, 0, 50, "a");
        P.x.number(4, 1);
        P.due("4 is more than 3", P.x.unlike(l), 1);
        P.x.number(4, 2);
        P.due("4 is not more than 6", P.x.unlike(l), 0);
        P.days(2);
        P.x.number(4, 1);
        // of four the sum is 201: 4 * 50 - 201 = 1 each, together 4 is not more than 4
        P.due("4 is not more than 4", P.x.unlike(l), 0);
        P.x.number(4, 0);
        P.due("4 is more than 0", P.x.unlike(l), 1);
    }

    /** "differences (without signs)": above and below are not made up for by one another. */
    private static void unlikeBothWays() {
        P.onePair();
        for (int i = 0; i < 3; i++) {
            read("a", 50);
        }
        P.x.number(4, 59);
        P.put("a");
        int l = P.x.letter(0, 0, 65, 35, 65, 35, 1);
        P.due("unlike", P.x.unlike(l), 1);
        P.days(2);
        dueState("HELD for its HAND", l, 3);
        P.x.number(4, 60);
        P.put("a");
        l = P.x.letter(0, 0, 65, 35, 65, 35, 1);
        P.days(2);
        dueState("PASSED", l, 5);
    }

    /** "of who wrote it (as that one)": a GIVER in all its PAIRS, a CHILD in all its PAIRS, each by itself. */
    private static void asThatOne() {
        P.onePair();
        P.x.giver(0);
        P.x.child(0, 0, 0, -1);
        P.x.pair(0, 1);
        P.x.number(4, 0);
        P.letter(0, 0, 10, "a");
        P.letter(1, 0, 10, "a");
        P.letter(0, 0, 10, "a");
        P.letter(0, 1, 20, "a");
        P.letter(1, 1, 30, "a");
        P.days(3);
        P.due("count(26)", P.x.count(26), 5);
        int giver = P.letter(1, 0, 11, "a");
        P.due("unlike of GIVER 0 in PAIR 1", P.x.unlike(giver), 1);
        P.due("unlike of CHILD 1", P.x.unlike(P.letter(1, 1, 99, "a")), 0);
        P.letter(0, 1, 20, "a");
        P.days(3);
        P.x.end(0);
        P.x.pair(1, 0);
        int child = P.letter(2, 1, 21, "a");
        P.due("unlike of CHILD 0 with two", P.x.unlike(child), 0);
        P.letter(2, 1, 20, "a");
        P.days(3);
        P.due("unlike of CHILD 0 with those of both PAIRS", P.x.unlike(child), 1);
        P.due("unlike of GIVER 1", P.x.unlike(P.letter(2, 0, 99, "a")), 0);
    }

    /** "how unlike a HAND may be (0 to 400)": with 0 just the same MARKS, with 400 all. */
    private static void fZeroAnd400() {
        P.onePair();
        P.x.number(4, 0);
        for (int i = 0; i < 4; i++) {
            dueState("the same MARKS", read("a", 0), 5);
        }
        int far = P.letter(0, 0, 99, "a");
        P.due("unlike with 0", P.x.unlike(far), 1);
        P.x.number(4, 395);
        P.due("unlike with 395", P.x.unlike(far), 1);
        P.x.number(4, 396);
        P.due("unlike with 396", P.x.unlike(far), 0);
        P.x.number(4, 400);
        P.due("unlike with 400", P.x.unlike(far), 0);
    }

    /** "LETTERS on their WAY that went as many DAYS ago as the WAY of the CHILD's VILLAGE, or more, COME". */
    private static void wayOrMore() {
        for (int way : new int[] {1, 2, 60}) {
            for (int by = 0; by < 2; by++) {
                P.fresh();
                P.x.village(way, 0);
                P.x.giver(0);
                P.x.child(0, 0, 0, -1);
                P.x.pair(0, 0);
                P.x.number(0, 1);
                P.x.number(1, 127);
                P.letter(0, by, 1, "a");
                P.days(2 + way - 1);
                dueState("one DAY less", 0, 5);
                P.x.day();
                dueState("as many", 0, 6);
                P.due("about(0, 4)", P.x.about(0, 4), 2 + way);
                P.due("about(0, 15)", P.x.about(0, 15), way);
            }
        }
    }

    private static void flooded(int flood) {
        P.fresh();
        P.x.village(1, flood);
        P.x.giver(0);
        P.x.child(0, 0, 0, -1);
        P.x.pair(0, 0);
        P.x.number(0, 1);
        P.x.number(1, 127);
    }

    /** One that would COME on a DAY, if there is no FLOOD. */
    private static int dueOn(int day) {
        P.days(day - 3 - P.x.count(0));
        int l = P.letter(0, 0, 1, "a");
        P.days(2);
        dueState("a DAY ahead of " + day, l, 5);
        P.x.day();
        return l;
    }

    /** "if there is no FLOOD in it this MONTH": the last DAY ahead of it, the first, the last, the first behind it. */
    private static void floodThisMonth() {
        for (int month = 1; month < 12; month++) {
            flooded(1 << month);
            dueState("ahead of FLOOD", dueOn(30 * month - 1), 6);
            int l = dueOn(30 * month + 3);
            dueState("in FLOOD", l, 5);
            P.days(26);
            dueState("on its last DAY", l, 5);
            P.x.day();
            dueState("behind it", l, 6);
            flooded(1 << month);
            dueState("on its first DAY", dueOn(30 * month), 5);
            // "or more": both that wait for its end COME at once
            dueState("on its last DAY", dueOn(30 * month + 29), 5);
            P.x.day();
            dueState("the first", 0, 6);
            dueState("the second", 1, 6);
        }
    }

    /** "months of a year (MONTH modulo 12)": MONTH 12 is the first again. */
    private static void monthModulo12() {
        flooded(1);
        dueState("in MONTH 11", dueOn(359), 6);
        int l = dueOn(362 + 1);
        dueState("in MONTH 12", l, 5);
        P.days(389 - 363);
        dueState("on its last DAY", l, 5);
        P.x.day();
        dueState("in MONTH 13", l, 6);
        flooded(1 << 11);
        dueState("in MONTH 10", dueOn(329), 6);
        dueState("in MONTH 11", dueOn(359), 5);
        P.x.day();
        dueState("in MONTH 12", 1, 6);
        flooded(4095);
        l = dueOn(3);
        P.days(450);
        dueState("with FLOOD in all", l, 5);
    }

    /** "of a PAIR that has ENDED they are BACK instead": on that DAY, not ahead of it, and not in FLOOD. */
    private static void endedAreBackInstead() {
        flooded(2);
        int l = dueOn(32);
        P.x.end(0);
        P.days(27);
        dueState("in FLOOD", l, 5);
        P.x.day();
        dueState("behind it", l, 7);
        P.due("about(l, 4)", P.x.about(l, 4), 60);
        P.fresh();
        P.x.village(9, 0);
        P.x.giver(0);
        P.x.child(0, 0, 0, -1);
        P.x.pair(0, 0);
        P.x.number(0, 1);
        P.x.number(1, 127);
        P.letter(0, 0, 1, "a");
        P.days(2);
        P.x.end(0);
        P.days(8);
        dueState("on its WAY", 0, 5);
        P.x.day();
        dueState("BACK", 0, 7);
    }

    /** "all that are WAITING go in one SACK (if there are any)". */
    private static void oneSackForAll() {
        P.onePair();
        P.x.number(0, 60);
        P.x.day();
        P.due("count(7) with none WAITING", P.x.count(7), 0);
        P.letter(0, 0, 1, "a");
        P.letter(0, 1, 1, "b");
        P.x.end(0);
        P.x.day();
        P.due("count(7)", P.x.count(7), 1);
        P.due("about(0, 5)", P.x.about(0, 5), 0);
        P.due("about(1, 5)", P.x.about(1, 5), 0);
        P.x.day();
        P.due("count(7) with none WAITING", P.x.count(7), 1);
        // the last of the SACKS that can be: one for each LETTER
        P.onePair();
        P.x.number(0, 60);
        for (int i = 0; i < 200; i++) {
            P.letter(0, 0, 1, "a");
            P.x.day();
        }
        P.due("count(7)", P.x.count(7), 200);
        P.due("about(199, 5)", P.x.about(199, 5), 199);
        P.due("lose(199)", P.x.lose(199), 1);
        P.due("lose(200)", P.x.lose(200), -1);
        P.due("count(8)", P.x.count(8), 59);
        P.x.day();
        P.due("count(8), a DAY on", P.x.count(8), 58);
    }

    /** "each LETTER in STATES 0 to 5 waits one DAY more in its STATE": the STATE of the DAY's end, and none from 6 on. */
    private static void lagByState() {
        P.onePair();
        P.x.number(1, 1 << 3);
        P.letter(0, 0, 1, "a");
        P.x.day();
        P.due("about(0, 10) on DAY 1", P.x.about(0, 10), 1);
        P.days(2);
        P.due("about(0, 10) on DAY 3, in a SACK", P.x.about(0, 10), 2);
        P.due("about(0, 11)", P.x.about(0, 11), 1);
        P.x.day();
        P.due("about(0, 11) on DAY 4, READ", P.x.about(0, 11), 1);
        P.due("about(0, 15)", P.x.about(0, 15), 1);
        P.x.day();
        dueState("COME", 0, 6);
        P.days(20);
        int[] lags = {2, 1, 0, 0, 0, 1};
        for (int s = 0; s < 6; s++) {
            P.due("about(0, 10 + " + s + ")", P.x.about(0, 10 + s), lags[s]);
            P.due("lag(" + s + ")", P.x.lag(s), lags[s]);
        }
        P.due("about(0, 9)", P.x.about(0, 9), -1);
        P.due("about(0, 16)", P.x.about(0, 16), -1);
        // "DAYS that all LETTERS waited in a STATE"
        P.letter(0, 0, 1, "a");
        P.letter(0, 1, 1, "b");
        P.days(10);
        P.due("lag(0) of three", P.x.lag(0), P.x.about(0, 10) + P.x.about(1, 10) + P.x.about(2, 10));
        P.due("lag(1) of three", P.x.lag(1), 3);
        P.due("lag(5) of three", P.x.lag(5), 3);
    }

    /** "the DAY on which it was written", "the DAY on which it came into its STATE": DAY 0 and others. */
    private static void daysOfALetter() {
        P.onePair();
        P.days(4);
        P.x.number(1, 1 << 6);
        P.letter(0, 0, 1, "a");
        int[][] rows = {{4, 0, 4}, {5, 0, 4}, {6, 1, 6}, {7, 5, 7}, {8, 6, 8}, {9, 6, 8}};
        for (int[] row : rows) {
            P.days(row[0] - P.x.count(0));
            P.due("about(0, 3) on DAY " + row[0], P.x.about(0, 3), 4);
            P.due("about(0, 4) on DAY " + row[0], P.x.about(0, 4), row[2]);
            dueState("on DAY " + row[0], 0, row[1]);
        }
    }

    /** "A person decides of a LETTER that is HELD ... false: no such one." */
    private static void heldAlone() {
        P.onePair();
        P.rules("h:h");
        P.due("decide(0, true) of none", P.x.decide(0, true), false);
        int l = P.letter(0, 0, 1, "h");
        P.due("decide, WAITING", P.x.decide(l, true), false);
        P.x.day();
        P.due("decide, in a SACK", P.x.decide(l, true), false);
        P.x.day();
        P.due("decide(1, true)", P.x.decide(1, true), false);
        P.due("decide(-1, true)", P.x.decide(-1, true), false);
        P.due("decide, HELD", P.x.decide(l, true), true);
        P.due("decide, on its WAY", P.x.decide(l, false), false);
        dueState("on its WAY", l, 5);
        P.x.day();
        P.due("decide, COME", P.x.decide(l, false), false);
        int back = read("h", 1);
        P.due("decide, HELD", P.x.decide(back, false), true);
        P.due("decide, BACK", P.x.decide(back, true), false);
        dueState("BACK", back, 7);
    }

    /** "they PASS (cut as above, by the RULES of then)": no RULES, and RULES that send back. */
    private static void heldByRulesOfThen() {
        P.onePair();
        P.rules("h:h;c:c;n1:n");
        int one = read("hcn", 1);
        int two = read("hcn", 1);
        P.x.rules(0);
        P.due("decide", P.x.decide(one, true), true);
        P.dueText("TEXT by no RULES", P.textOf(one), "hcn");
        P.due("hints(0)", P.x.hints(0), 0);
        P.rules("r:h;n0:c;c:n");
        P.x.number(3, 1);
        // what was READ last is another one's
        P.due("the letter READ last", read("zzzrhh", 1), 2);
        P.due("decide", P.x.decide(two, true), true);
        dueState("PASSED", two, 5);
        P.dueText("TEXT by other RULES", P.textOf(two), "hcx");
        P.due("hints(0)", P.x.hints(0), 1);
        P.due("about(two, 8)", P.x.about(two, 8), 1);
    }

    /** "A SACK that is on its way can be LOST": not ahead of it, not when it is there, not twice. */
    private static void sackOnItsWay() {
        P.onePair();
        P.x.number(0, 2);
        P.letter(0, 0, 1, "a");
        P.letter(0, 1, 1, "a");
        P.due("lose(0), not gone", P.x.lose(0), -1);
        P.x.day();
        P.due("lose(1)", P.x.lose(1), -1);
        P.due("lose(-1)", P.x.lose(-1), -1);
        P.x.day();
        P.due("lose(0)", P.x.lose(0), 2);
        P.due("lose(0) again", P.x.lose(0), -1);
        P.due("count(8)", P.x.count(8), 0);
        P.due("count(7), SACKS that ever went", P.x.count(7), 1);
        P.due("about(0, 4)", P.x.about(0, 4), 2);
        P.x.day();
        dueState("LOST", 0, 8);
        P.letter(0, 0, 1, "a");
        P.days(3);
        P.due("lose(1), it is there", P.x.lose(1), -1);
        dueState("it is there", 2, 5);
    }

    /** "Of LETTER l, what 0 .. 8 ... NONE for others." */
    private static void aboutBounds() {
        P.onePair();
        P.letter(0, 1, 1, "ab");
        int[] want = {0, 0, 1, 0, 0, -1, -1, 2, 0, -1, 0, 0, 0, 0, 0, 0, -1, -1, -1, -1, 'a', 'b', -1};
        for (int what = 0; what < want.length; what++) {
            P.due("about(0, " + what + ")", P.x.about(0, what), want[what]);
        }
        for (int what : new int[] {-1, 23, 179, 180, Integer.MIN_VALUE, Integer.MAX_VALUE, Integer.MAX_VALUE - 20}) {
            P.due("about(0, " + what + ")", P.x.about(0, what), -1);
        }
        P.due("about(-1, 7)", P.x.about(-1, 7), -1);
        P.due("about(1, 7)", P.x.about(1, 7), -1);
    }

    /** "20 + i sign i of its TEXT": of the longest and of the shortest one. */
    private static void aboutText() {
        P.onePair();
        P.letter(0, 0, 1, "z" + "a".repeat(158) + "9");
        P.due("about(0, 20)", P.x.about(0, 20), 'z');
        P.due("about(0, 179)", P.x.about(0, 179), '9');
        P.due("about(0, 180)", P.x.about(0, 180), -1);
        P.letter(0, 0, 1, "\n");
        P.due("about(1, 20)", P.x.about(1, 20), 10);
        P.due("about(1, 21)", P.x.about(1, 21), -1);
    }

    /** Promises 18 to 20: "NONE: no such one". */
    private static void hintsUnlikeLagBounds() {
        P.onePair();
        P.x.child(0, 0, 0, -1);
        P.x.pair(0, 1);
        P.due("unlike(0) of none", P.x.unlike(0), -1);
        P.letter(0, 0, 1, "a");
        int[] bounds = {Integer.MIN_VALUE, -1, Integer.MAX_VALUE};
        for (int n : bounds) {
            P.due("hints(" + n + ")", P.x.hints(n), -1);
            P.due("unlike(" + n + ")", P.x.unlike(n), -1);
            P.due("lag(" + n + ")", P.x.lag(n), -1);
        }
        P.due("hints(1)", P.x.hints(1), 0);
        P.due("hints(2)", P.x.hints(2), -1);
        P.due("unlike(0)", P.x.unlike(0), 0);
        P.due("unlike(1)", P.x.unlike(1), -1);
        P.due("lag(0)", P.x.lag(0), 0);
        P.due("lag(5)", P.x.lag(5), 0);
        P.due("lag(6)", P.x.lag(6), -1);
        P.x.end(1);
        P.due("hints(1) of one that has ENDED", P.x.hints(1), 0);
    }
}
