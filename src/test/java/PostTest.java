/** Promises 12 and 14 to 20: LETTERS, DAYS, HELD ones, SACKS, HANDS and LAG. */
public final class PostTest {
    private static final Probe P = new Probe();

    public static void main(String[] args) {
        writing();
        twoHundred();
        lastDay();
        sacks();
        sackDaysOfThen();
        sacksOnWeekdays();
        lost();
        readInOrder();
        readKinds();
        readEnded();
        hints();
        cuts();
        hands();
        handsArePersons();
        handsOfAll();
        handsBorders();
        held();
        heldByRulesOfThen();
        heldOfEnded();
        comes();
        floods();
        lags();
        aboutOthers();
        P.close("PostTest");
    }

    /** A LETTER of the GIVER of PAIR 0 that is READ on the second DAY behind. */
    private static int read(String text, int mark) {
        int l = P.letter(0, 0, mark, text);
        P.days(2);
        return l;
    }

    private static void dueState(int l, int want) {
        P.due("about(" + l + ", 0)", P.x.about(l, 0), want);
    }

    private static void writing() {
        P.onePair();
        P.put("abc");
        P.due("letter of no PAIR", P.x.letter(1, 0, 0, 0, 0, 0, 3), -1);
        P.due("letter of PAIR -1", P.x.letter(-1, 0, 0, 0, 0, 0, 3), -1);
        P.due("letter by 2", P.x.letter(0, 2, 0, 0, 0, 0, 3), -1);
        P.due("letter by -1", P.x.letter(0, -1, 0, 0, 0, 0, 3), -1);
        for (int i = 0; i < 4; i++) {
            int[] low = new int[4];
            int[] high = new int[4];
            low[i] = -1;
            high[i] = 100;
            P.due("letter MARK -1", P.x.letter(0, 0, low[0], low[1], low[2], low[3], 3), -1);
            P.due("letter MARK 100", P.x.letter(0, 0, high[0], high[1], high[2], high[3], 3), -1);
        }
        P.due("letter of 0", P.x.letter(0, 0, 0, 0, 0, 0, 0), -1);
        P.due("letter of -1", P.x.letter(0, 0, 0, 0, 0, 0, -1), -1);
        P.due("letter of 4", P.x.letter(0, 0, 0, 0, 0, 0, 4), -1);
        P.due("letter of 21", P.x.letter(0, 0, 0, 0, 0, 0, 21), -1);
        P.due("count(11)", P.x.count(11), 20);
        P.due("count(6)", P.x.count(6), 0);
        P.due("letter", P.x.letter(0, 1, 99, 0, 99, 0, 3), 0);
        P.due("count(11)", P.x.count(11), 0);
        int[] want = {0, 0, 1, 0, 0, -1, -1, 3, 0, -1, 0, 0, 0, 0, 0, 0, -1, -1, -1, -1, 'a', 'b', 'c', -1};
        for (int what = 0; what < want.length; what++) {
            P.due("about(0, " + what + ")", P.x.about(0, what), want[what]);
        }
        P.put("a".repeat(161));
        P.due("letter of 161", P.x.letter(0, 0, 0, 0, 0, 0, 161), -1);
        P.due("letter of 160", P.x.letter(0, 0, 0, 0, 0, 0, 160), 1);
        P.due("about(1, 179)", P.x.about(1, 179), 'a');
        P.due("about(1, 180)", P.x.about(1, 180), -1);
        P.x.end(0);
        P.put("abc");
        P.due("letter of an ended PAIR", P.x.letter(0, 0, 0, 0, 0, 0, 3), -1);
        P.due("count(11)", P.x.count(11), 20);
    }

    private static void twoHundred() {
        P.onePair();
        for (int i = 0; i < 200; i++) {
            P.due("letter " + i, P.letter(0, i & 1, 1, "a"), i);
        }
        P.due("letter 200", P.letter(0, 0, 1, "a"), -1);
        P.due("count(11)", P.x.count(11), 20);
        P.due("count(6)", P.x.count(6), 200);
        P.due("of(0, 5)", P.x.of(0, 5), 200);
        P.due("about(199, 2)", P.x.about(199, 2), 1);
        P.due("about(200, 2)", P.x.about(200, 2), -1);
        P.x.number(2, 20);
        P.days(12);
        P.due("count(26)", P.x.count(26), 200);
    }

    /** More calls than an object is promised for: it is free what they answer, but here it is told. */
    private static void lastDay() {
        P.fresh();
        for (int i = 1; i <= 512; i++) {
            P.due("day()", P.x.day(), i);
        }
        P.days(3599 - 512);
        P.due("count(0)", P.x.count(0), 3599);
        P.due("day()", P.x.day(), -1);
        P.due("count(0)", P.x.count(0), 3599);
    }

    private static void sacks() {
        P.onePair();
        P.x.number(0, 3);
        P.letter(0, 0, 1, "a");
        P.letter(0, 1, 1, "b");
        P.x.day();
        P.due("count(7)", P.x.count(7), 1);
        P.letter(0, 0, 1, "c");
        P.due("about(2, 3)", P.x.about(2, 3), 1);
        P.due("about(2, 4)", P.x.about(2, 4), 1);
        P.x.day();
        P.x.day();
        int[] sack = {0, 0, 1};
        for (int l = 0; l < 3; l++) {
            dueState(l, 1);
            P.due("about(l, 5)", P.x.about(l, 5), sack[l]);
        }
        P.due("about(2, 4)", P.x.about(2, 4), 2);
        P.due("count(7)", P.x.count(7), 2);
        P.due("count(8)", P.x.count(8), 2);
        P.x.number(2, 1);
        P.x.day();
        dueState(0, 5);
        dueState(1, 2);
        P.due("about(1, 4)", P.x.about(1, 4), 4);
        P.due("about(1, 5)", P.x.about(1, 5), 0);
        dueState(2, 1);
        P.due("count(8)", P.x.count(8), 1);
        P.due("lose(0)", P.x.lose(0), -1);
        P.x.day();
        P.due("count(8)", P.x.count(8), 0);
        P.due("count(7)", P.x.count(7), 2);
        // a LETTER of a PAIR that has ENDED goes in a SACK too
        P.onePair();
        P.letter(0, 0, 1, "a");
        P.x.end(0);
        P.x.day();
        dueState(0, 1);
    }

    private static void sackDaysOfThen() {
        P.onePair();
        P.x.number(0, 4);
        P.letter(0, 0, 1, "a");
        P.x.day();
        P.x.number(0, 1);
        P.letter(0, 0, 1, "b");
        P.x.day();
        P.x.number(0, 60);
        P.x.day();
        dueState(0, 1);
        dueState(1, 5);
        P.x.day();
        dueState(0, 1);
        P.x.day();
        dueState(0, 5);
    }

    private static void sacksOnWeekdays() {
        P.onePair();
        P.x.number(1, 1 << 3 | 1 << 6);
        for (int d = 1; d <= 21; d++) {
            int l = P.letter(0, 0, 1, "a");
            P.x.day();
            dueState(l, d % 7 == 3 || d % 7 == 6 ? 1 : 0);
        }
        P.due("count(7)", P.x.count(7), 6);
        // no SACK goes without a LETTER
        P.onePair();
        P.days(5);
        P.due("count(7)", P.x.count(7), 0);
    }

    private static void lost() {
        P.onePair();
        P.x.number(0, 5);
        P.letter(0, 0, 1, "a");
        P.letter(0, 0, 1, "b");
        P.x.day();
        P.letter(0, 0, 1, "c");
        P.due("lose(1)", P.x.lose(1), -1);
        P.x.day();
        P.due("lose(-1)", P.x.lose(-1), -1);
        P.due("lose(2)", P.x.lose(2), -1);
        P.due("lose(0)", P.x.lose(0), 2);
        P.due("lose(0)", P.x.lose(0), -1);
        dueState(0, 8);
        dueState(1, 8);
        dueState(2, 1);
        P.due("about(0, 4)", P.x.about(0, 4), 2);
        P.due("about(0, 5)", P.x.about(0, 5), 0);
        P.due("count(7)", P.x.count(7), 2);
        P.due("count(8)", P.x.count(8), 1);
        P.due("count(28)", P.x.count(28), 2);
        P.days(9);
        dueState(0, 8);
        dueState(2, 6);
        P.due("about(0, 11)", P.x.about(0, 11), 2);
    }

    private static void readInOrder() {
        P.onePair();
        P.x.number(2, 2);
        P.x.number(0, 3);
        for (int i = 0; i < 3; i++) {
            P.letter(0, 0, 1, "a");
        }
        P.x.day();
        P.x.number(0, 1);
        P.letter(0, 0, 1, "b");
        P.x.day();
        P.x.day();
        // the later one came first
        dueState(3, 5);
        P.letter(0, 0, 1, "c");
        P.x.day();
        dueState(0, 5);
        dueState(1, 5);
        dueState(2, 2);
        P.x.day();
        dueState(2, 5);
        dueState(4, 5);
        P.due("about(2, 4)", P.x.about(2, 4), 5);
    }

    private static void readKinds() {
        P.onePair();
        P.rules("r:bad;h:odd;c:x;n1:q");
        dueState(read("good", 1), 5);
        dueState(read("a bad one", 1), 7);
        dueState(read("an odd one", 1), 3);
        dueState(read("odd and bad", 1), 7);
        dueState(read("bax", 1), 5);
        P.due("hints(0)", P.x.hints(0), 0);
        dueState(read("q odd", 1), 3);
        P.due("hints(0)", P.x.hints(0), 0);
        dueState(read("q bad", 1), 7);
        P.due("hints(0)", P.x.hints(0), 0);
        dueState(read("q", 1), 5);
        P.due("hints(0)", P.x.hints(0), 2);
        P.due("about(2, 4)", P.x.about(2, 4), 6);
    }

    private static void readEnded() {
        P.onePair();
        P.rules("n1:a;h:b");
        P.letter(0, 0, 1, "a");
        P.letter(0, 0, 1, "b");
        P.x.number(2, 1);
        P.x.day();
        P.x.end(0);
        P.x.day();
        dueState(0, 7);
        dueState(1, 2);
        P.due("hints(0)", P.x.hints(0), 0);
        P.x.day();
        dueState(1, 7);
    }

    private static void hints() {
        P.onePair();
        P.rules("n0:a;n3:b;n7:c;n3:d");
        P.x.number(3, 3);
        dueState(read("a", 1), 5);
        dueState(read("b d", 1), 5);
        P.due("hints(0)", P.x.hints(0), 9);
        dueState(read("c", 1), 3);
        P.due("hints(0)", P.x.hints(0), 9);
        dueState(read("d", 1), 5);
        P.x.number(3, 2);
        dueState(read("e", 1), 3);
        P.due("decide", P.x.decide(2, true), true);
        P.due("hints(0)", P.x.hints(0), 137);
        P.x.number(3, 4);
        dueState(read("a b c d", 1), 5);
        P.x.end(0);
        P.due("hints(0)", P.x.hints(0), 137);
        P.due("hints(1)", P.x.hints(1), -1);
        P.due("hints(-1)", P.x.hints(-1), -1);
        // hints of one LETTER alone, each kind once
        P.onePair();
        P.rules("n0:a;n3:b;n7:c");
        dueState(read("aaabbb", 1), 5);
        P.x.end(0);
        P.x.pair(0, 0);
        P.due("hints(1)", P.x.hints(1), 0);
    }

    private static void cuts() {
        P.onePair();
        P.rules("c:ab+;n1:cc;c:#");
        int l = read("abbb cc 12ab", 1);
        P.dueText("TEXT", P.textOf(l), "x cc xxx");
        P.due("about(l, 7)", P.x.about(l, 7), 8);
        P.due("about(l, 8)", P.x.about(l, 8), 4);
        P.due("about(l, 28)", P.x.about(l, 28), -1);
        P.due("hints(0)", P.x.hints(0), 2);
        int whole = read("abb", 1);
        P.dueText("TEXT", P.textOf(whole), "x");
        int none = read("a\nb", 1);
        P.dueText("TEXT", P.textOf(none), "a\nb");
        P.due("about(none, 8)", P.x.about(none, 8), 0);
        P.x.number(3, 1);
        int heldOne = read("ab cc", 1);
        dueState(heldOne, 3);
        P.dueText("TEXT", P.textOf(heldOne), "ab cc");
        P.due("about(heldOne, 8)", P.x.about(heldOne, 8), 0);
    }

    private static void hands() {
        P.onePair();
        int first = read("a", 50);
        read("a", 50);
        P.due("unlike(0)", P.x.unlike(first), 0);
        int far = P.letter(0, 0, 90, "a");
        P.due("unlike of two", P.x.unlike(far), 0);
        P.days(2);
        dueState(far, 5);
        P.due("unlike(far)", P.x.unlike(far), 1);
        P.due("unlike(first)", P.x.unlike(first), 0);
        P.due("unlike(3)", P.x.unlike(3), -1);
        P.due("unlike(-1)", P.x.unlike(-1), -1);
        int next = read("a", 99);
        dueState(next, 3);
        // one that was HELD counts for nothing till it PASSES
        P.due("unlike(next)", P.x.unlike(next), 1);
        P.x.decide(next, true);
        P.x.number(4, 108);
        P.due("unlike(next)", P.x.unlike(next), 0);
        P.x.number(4, 106);
        P.due("unlike(next)", P.x.unlike(next), 1);
    }

    private static void handsArePersons() {
        P.onePair();
        P.x.giver(0);
        P.x.child(0, 0, 0, -1);
        P.x.pair(0, 1);
        // GIVER 0 in two PAIRS is one HAND; CHILD 0 is another one
        P.letter(0, 0, 10, "a");
        P.letter(1, 0, 10, "a");
        P.letter(0, 0, 10, "a");
        P.days(2);
        int far = P.letter(1, 0, 60, "a");
        int child = P.letter(0, 1, 60, "a");
        P.due("unlike(far)", P.x.unlike(far), 1);
        P.due("unlike(child)", P.x.unlike(child), 0);
        P.days(2);
        dueState(far, 3);
        dueState(child, 5);
        // and CHILD 0 with another GIVER is still the same HAND
        P.letter(0, 1, 60, "a");
        P.letter(0, 1, 60, "a");
        P.days(2);
        P.x.end(0);
        P.x.pair(1, 0);
        int other = P.letter(2, 1, 0, "a");
        P.due("unlike(other)", P.x.unlike(other), 1);
        int giver = P.letter(2, 0, 0, "a");
        P.due("unlike(giver)", P.x.unlike(giver), 0);
    }

    /** Each of 16 GIVERS and 16 CHILDREN has a HAND of its own. */
    private static void handsOfAll() {
        P.fresh();
        P.x.village(1, 0);
        P.x.number(0, 1);
        P.x.number(1, 127);
        P.x.number(2, 20);
        for (int i = 0; i < 16; i++) {
            P.x.giver(0);
            P.x.child(0, 0, 0, -1);
            P.x.pair(i, i);
        }
        for (int p = 0; p < 16; p++) {
            for (int i = 0; i < 3; i++) {
                P.letter(p, 0, 2 * p, "a");
                P.letter(p, 1, 99 - 2 * p, "a");
            }
        }
        P.days(6);
        P.due("count(25) and count(26)", P.x.count(25) + P.x.count(26), 96);
        P.x.number(4, 0);
        for (int l = 0; l < 96; l++) {
            P.due("unlike(" + l + ")", P.x.unlike(l), 0);
        }
        P.x.number(4, 4);
        for (int p = 0; p < 16; p++) {
            int giver = P.letter(p, 0, 2 * p + 1, "a");
            int child = P.letter(p, 1, 99 - 2 * p - 1, "a");
            P.due("unlike(giver)", P.x.unlike(giver), 0);
            P.due("unlike(child)", P.x.unlike(child), 0);
        }
        P.x.number(4, 3);
        for (int l = 96; l < 128; l++) {
            P.due("unlike(" + l + ")", P.x.unlike(l), 1);
        }
    }

    private static void handsBorders() {
        P.onePair();
        for (int i = 0; i < 3; i++) {
            P.put("a");
            P.x.letter(0, 0, 40, 41 + i, 50, 60, 1);
        }
        P.days(2);
        // sums 120, 126, 150, 180; just 3 * 60 apart, then one more
        P.put("a");
        int like = P.x.letter(0, 0, 60, 62, 50, 40, 1);
        P.put("a");
        int apart = P.x.letter(0, 0, 20, 62, 49, 40, 1);
        P.due("unlike(like)", P.x.unlike(like), 0);
        P.due("unlike(apart)", P.x.unlike(apart), 1);
        P.x.number(4, 61);
        P.due("unlike(apart)", P.x.unlike(apart), 0);
        P.x.number(4, 59);
        P.due("unlike(like)", P.x.unlike(like), 1);
        P.x.number(4, 0);
        P.put("a");
        int same = P.x.letter(0, 0, 40, 42, 50, 60, 1);
        P.due("unlike(same)", P.x.unlike(same), 0);
    }

    private static void held() {
        P.onePair();
        P.rules("h:h;c:c;n2:n");
        int a = read("h c n", 1);
        P.due("decide(1, true)", P.x.decide(1, true), false);
        P.due("decide(-1, true)", P.x.decide(-1, true), false);
        P.days(3);
        P.due("decide(a, true)", P.x.decide(a, true), true);
        dueState(a, 5);
        P.due("about(a, 4)", P.x.about(a, 4), 5);
        P.due("about(a, 13)", P.x.about(a, 13), 4);
        P.dueText("TEXT", P.textOf(a), "h x n");
        P.due("hints(0)", P.x.hints(0), 4);
        P.due("decide(a, false)", P.x.decide(a, false), false);
        int b = read("hn", 1);
        P.due("decide(b, false)", P.x.decide(b, false), true);
        dueState(b, 7);
        P.due("about(b, 4)", P.x.about(b, 4), 7);
        P.due("decide(b, true)", P.x.decide(b, true), false);
    }

    private static void heldByRulesOfThen() {
        P.onePair();
        P.rules("h:a;c:b;n1:b");
        int l = read("ab q", 1);
        dueState(l, 3);
        P.rules("c:q;n3:a;r:_;h:b");
        P.due("decide(l, true)", P.x.decide(l, true), true);
        P.dueText("TEXT", P.textOf(l), "ab x");
        P.due("hints(0)", P.x.hints(0), 8);
        dueState(l, 5);
    }

    private static void heldOfEnded() {
        P.onePair();
        P.rules("h:a");
        int l = read("a", 1);
        P.x.end(0);
        P.days(2);
        dueState(l, 3);
        P.due("decide(l, true)", P.x.decide(l, true), true);
        dueState(l, 5);
        P.x.day();
        dueState(l, 7);
    }

    private static void comes() {
        P.fresh();
        P.x.village(2, 0);
        P.x.village(5, 0);
        P.x.giver(0);
        P.x.child(0, 0, 0, -1);
        P.x.child(1, 0, 0, -1);
        P.x.pair(0, 0);
        P.x.pair(0, 1);
        P.x.number(0, 1);
        P.x.number(1, 127);
        P.letter(0, 0, 1, "a");
        P.letter(1, 0, 1, "b");
        P.letter(0, 1, 1, "c");
        P.letter(1, 1, 1, "d");
        P.days(3);
        dueState(0, 5);
        P.x.day();
        int[] four = {6, 5, 6, 5};
        for (int l = 0; l < 4; l++) {
            dueState(l, four[l]);
        }
        P.due("about(0, 4)", P.x.about(0, 4), 4);
        P.days(2);
        dueState(1, 5);
        P.x.end(1);
        P.x.end(0);
        P.x.day();
        dueState(0, 6);
        dueState(1, 7);
        dueState(3, 7);
        P.due("about(1, 4)", P.x.about(1, 4), 7);
    }

    private static void floods() {
        P.fresh();
        // FLOOD in month 0 and 12 of the count, and in month 1
        P.x.village(1, 1 | 2);
        P.x.giver(0);
        P.x.child(0, 0, 0, -1);
        P.x.pair(0, 0);
        P.x.number(0, 1);
        P.x.number(1, 127);
        P.letter(0, 0, 1, "a");
        P.days(59);
        dueState(0, 5);
        P.x.day();
        dueState(0, 6);
        P.due("about(0, 4)", P.x.about(0, 4), 60);
        P.due("about(0, 15)", P.x.about(0, 15), 58);
        P.days(299);
        P.letter(0, 0, 1, "a");
        P.x.day();
        P.x.day();
        P.due("count(0)", P.x.count(0), 361);
        P.days(50);
        dueState(1, 5);
        P.letter(0, 0, 1, "a");
        P.days(5);
        P.x.end(0);
        P.days(3);
        dueState(2, 5);
        P.x.day();
        dueState(1, 7);
        dueState(2, 7);
        P.due("about(2, 4)", P.x.about(2, 4), 420);
    }

    private static void lags() {
        P.onePair();
        P.x.number(0, 2);
        P.x.number(1, 1 << 3);
        P.x.number(2, 1);
        P.rules("h:h");
        P.letter(0, 0, 1, "a");
        P.letter(0, 0, 1, "h");
        P.days(9);
        int[][] want = {{2, 2, 0, 0, 0, 1}, {2, 2, 1, 4, 0, 0}};
        int[] sums = {4, 4, 1, 4, 0, 1};
        for (int s = 0; s < 6; s++) {
            P.due("about(0, 10 + " + s + ")", P.x.about(0, 10 + s), want[0][s]);
            P.due("about(1, 10 + " + s + ")", P.x.about(1, 10 + s), want[1][s]);
            P.due("lag(" + s + ")", P.x.lag(s), sums[s]);
        }
        P.due("lag(-1)", P.x.lag(-1), -1);
        P.due("lag(6)", P.x.lag(6), -1);
        P.x.decide(1, false);
        P.days(4);
        P.due("lag(3)", P.x.lag(3), 4);
    }

    private static void aboutOthers() {
        P.onePair();
        P.letter(0, 0, 1, "ab");
        int[] others = {Integer.MIN_VALUE, -1, 9, 16, 19, 22, 200, Integer.MAX_VALUE};
        for (int what : others) {
            P.due("about(0, " + what + ")", P.x.about(0, what), -1);
        }
    }
}
