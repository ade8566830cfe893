/** Promise 13, and of promise 14 THE TURN. */
public final class TurnTest {
    private static final Probe P = new Probe();

    public static void main(String[] args) {
        translators();
        tongues();
        highTongues();
        alikeTongues();
        weekdaysOff();
        mostLetters();
        keptThenLeast();
        keptOfDaysAhead();
        firstSix();
        orderOfTurn();
        latestOfTwo();
        P.close("TurnTest");
    }

    private static void translators() {
        P.fresh();
        int most = (1 << 18) - 1;
        P.due("low -1", P.x.translator(-1, 0, 1, 0), -1);
        P.due("low above", P.x.translator(most + 1, 0, 1, 0), -1);
        P.due("high -1", P.x.translator(0, -1, 1, 0), -1);
        P.due("high above", P.x.translator(0, most + 1, 1, 0), -1);
        P.due("perDay 0", P.x.translator(0, 0, 0, 0), -1);
        P.due("perDay 5", P.x.translator(0, 0, 5, 0), -1);
        P.due("off -1", P.x.translator(0, 0, 1, -1), -1);
        P.due("off 128", P.x.translator(0, 0, 1, 128), -1);
        P.due("count(9)", P.x.count(9), 0);
        P.due("none known", P.x.translator(0, 0, 1, 0), 0);
        P.due("all known", P.x.translator(most, most, 4, 127), 1);
        for (int i = 2; i < 6; i++) {
            P.due("translator " + i, P.x.translator(1, 1, 1, 0), i);
        }
        P.due("translator 6", P.x.translator(1, 1, 1, 0), -1);
        P.due("count(9)", P.x.count(9), 6);
    }

    /** Pairs of GIVERS of TONGUE g and CHILDREN of TONGUE c; SACKS go and come within a DAY. */
    private static void pairs(int many, int g, int c) {
        P.fresh();
        P.x.village(1, 0);
        P.x.number(0, 1);
        P.x.number(1, 127);
        P.x.number(2, 20);
        for (int i = 0; i < many; i++) {
            P.x.giver(g);
            P.x.child(0, c, 0, -1);
            P.x.pair(i, i);
        }
    }

    private static void know(int from, int to, int perDay, int off) {
        int bit = 6 * from + to;
        P.x.translator(bit < 18 ? 1 << bit : 0, bit < 18 ? 0 : 1 << bit - 18, perDay, off);
    }

    private static void dueBy(int l, int translator) {
        P.due("about(" + l + ", 6)", P.x.about(l, 6), translator);
        P.due("about(" + l + ", 0)", P.x.about(l, 0), translator == -1 ? 4 : 5);
    }

    private static void tongues() {
        pairs(1, 0, 1);
        know(1, 0, 4, 0);
        know(0, 2, 4, 0);
        P.letter(0, 0, 1, "a");
        P.letter(0, 1, 1, "b");
        P.days(2);
        dueBy(0, -1);
        dueBy(1, 0);
        P.due("of(0, 4)", P.x.of(0, 4), 0);
        know(0, 1, 4, 0);
        P.x.day();
        P.due("about(0, 6)", P.x.about(0, 6), 2);
        P.due("about(0, 14)", P.x.about(0, 14), 1);
        P.due("about(0, 4)", P.x.about(0, 4), 3);
        P.due("of(0, 4)", P.x.of(0, 4), 2);
        P.due("about(1, 0)", P.x.about(1, 0), 6);
    }

    private static void highTongues() {
        for (int from = 0; from < 6; from++) {
            int to = (from + 2) % 6;
            pairs(1, from, to);
            know(to, from, 4, 0);
            know(from, to, 4, 0);
            P.letter(0, 0, 1, "a");
            P.letter(0, 1, 1, "b");
            P.days(2);
            dueBy(0, 1);
            dueBy(1, 0);
        }
    }

    private static void alikeTongues() {
        pairs(1, 3, 3);
        know(3, 3, 4, 0);
        P.letter(0, 0, 1, "a");
        P.days(2);
        P.due("about(0, 6)", P.x.about(0, 6), -1);
        P.due("about(0, 0)", P.x.about(0, 0), 5);
    }

    private static void weekdaysOff() {
        pairs(1, 0, 1);
        know(0, 1, 4, 1 << 2 | 1 << 3 | 1 << 4);
        P.letter(0, 0, 1, "a");
        P.days(4);
        dueBy(0, -1);
        P.x.day();
        dueBy(0, 0);
        P.due("lag(4)", P.x.lag(4), 3);
    }

    private static void mostLetters() {
        // 0 knows both ways, but one alone a day: the other one must take what it can
        pairs(1, 0, 1);
        P.x.translator(1 << 1 | 1 << 6, 0, 1, 0);
        know(0, 1, 1, 0);
        P.letter(0, 0, 1, "a");
        P.letter(0, 1, 1, "b");
        P.days(2);
        dueBy(0, 1);
        dueBy(1, 0);
        // numbers a day
        pairs(1, 0, 1);
        know(0, 1, 3, 0);
        for (int i = 0; i < 5; i++) {
            P.letter(0, 0, 1, "a");
        }
        P.days(2);
        for (int i = 0; i < 5; i++) {
            dueBy(i, i < 3 ? 0 : -1);
        }
        P.x.day();
        P.due("about(4, 4)", P.x.about(4, 4), 3);
    }

    private static void keptThenLeast() {
        pairs(3, 0, 1);
        know(0, 1, 1, 0);
        P.letter(1, 0, 1, "a");
        P.days(2);
        dueBy(0, 0);
        know(0, 1, 2, 0);
        // of three LETTERS all go; 0 is kept for PAIR 1, though the least row would give 0 to the first
        P.letter(0, 0, 1, "a");
        P.letter(1, 0, 1, "a");
        P.letter(2, 0, 1, "a");
        P.days(2);
        dueBy(1, 1);
        dueBy(2, 0);
        dueBy(3, 1);
        // with two of its own, the first in the row is kept
        P.letter(1, 0, 1, "a");
        P.letter(1, 0, 1, "a");
        P.days(2);
        dueBy(4, 0);
        dueBy(5, 1);
        P.due("of(1, 4)", P.x.of(1, 4), 1);
        // more LETTERS go before more are kept
        pairs(2, 0, 1);
        P.x.child(0, 2, 0, -1);
        P.x.pair(0, 2);
        P.x.translator(1 << 1 | 1 << 2, 0, 1, 0);
        P.letter(0, 0, 1, "a");
        P.days(2);
        know(0, 1, 1, 0);
        P.letter(0, 0, 1, "a");
        P.letter(2, 0, 1, "a");
        P.days(2);
        dueBy(1, 1);
        dueBy(2, 0);
    }

    private static void keptOfDaysAhead() {
        // what THE TURN itself gives today keeps nothing for today
        pairs(2, 0, 1);
        know(0, 1, 1, 0);
        know(0, 1, 2, 0);
        P.letter(0, 0, 1, "a");
        P.letter(0, 0, 1, "a");
        P.letter(1, 0, 1, "a");
        P.days(2);
        dueBy(0, 0);
        dueBy(1, 1);
        dueBy(2, 1);
    }

    private static void firstSix() {
        pairs(2, 0, 1);
        P.x.child(0, 2, 0, -1);
        P.x.pair(0, 2);
        know(0, 1, 4, 0);
        know(0, 1, 4, 0);
        // six that no one knows stand ahead of one that could go
        for (int i = 0; i < 6; i++) {
            P.letter(2, 0, 1, "a");
        }
        P.letter(0, 0, 1, "a");
        P.days(2);
        dueBy(6, -1);
        P.days(3);
        dueBy(6, -1);
        know(0, 2, 1, 0);
        P.x.day();
        dueBy(0, 2);
        dueBy(6, -1);
        P.x.day();
        dueBy(1, 2);
        dueBy(6, 0);
        // of eight six go at once
        pairs(2, 0, 1);
        know(0, 1, 4, 0);
        know(0, 1, 4, 0);
        for (int i = 0; i < 8; i++) {
            P.letter(0, 0, 1, "a");
        }
        P.days(2);
        for (int i = 0; i < 8; i++) {
            dueBy(i, i < 4 ? 0 : i < 6 ? 1 : -1);
        }
    }

    private static void orderOfTurn() {
        // the DAY on which it came to be TRANSLATED is ahead of the number
        pairs(1, 0, 1);
        know(0, 1, 1, 0);
        P.rules("h:h");
        P.letter(0, 0, 1, "h");
        P.letter(0, 0, 1, "a");
        P.letter(0, 0, 1, "a");
        P.days(2);
        dueBy(1, 0);
        P.x.decide(0, true);
        P.x.number(1, 1);
        P.x.day();
        // 0 and 2 came on one DAY: by numbers
        P.due("about(0, 6)", P.x.about(0, 6), 0);
        dueBy(2, -1);
        P.x.day();
        dueBy(2, 0);
        pairs(1, 0, 1);
        know(0, 1, 1, 1 << 2);
        P.rules("h:h");
        P.letter(0, 0, 1, "h");
        P.letter(0, 0, 1, "a");
        P.days(2);
        dueBy(1, -1);
        P.x.number(0, 60);
        P.days(1);
        P.due("about(1, 0)", P.x.about(1, 0), 5);
        P.letter(0, 0, 1, "a");
        P.x.decide(0, true);
        P.x.day();
        dueBy(0, 0);
    }

    private static void latestOfTwo() {
        pairs(1, 0, 1);
        know(1, 0, 4, 0);
        know(0, 1, 4, 0);
        P.letter(0, 0, 1, "a");
        P.letter(0, 1, 1, "a");
        P.days(2);
        P.due("of(0, 4)", P.x.of(0, 4), 0);
        P.letter(0, 1, 1, "a");
        P.letter(0, 0, 1, "a");
        P.days(2);
        P.due("of(0, 4)", P.x.of(0, 4), 1);
    }
}
