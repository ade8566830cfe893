import java.util.ArrayList;
import java.util.List;

/**
 * "A call that is refused (NONE, false) changes nothing but the tape, where it is told." Each call is refused once for
 * each reason that the document names, on an office with something of everything: all that can be asked is as before,
 * and the office goes on as its twin does, which was not asked.
 */
public final class RefusedTest {
    private static final int NO = ChildLetters.NONE;
    private static final int LOW = Integer.MIN_VALUE;
    private static final int HIGH = Integer.MAX_VALUE;
    private static int wrong;
    private static int tried;

    private interface Call {
        long on(ChildLetters x);
    }

    private interface Made {
        ChildLetters office();
    }

    public static void main(String[] args) {
        somethingOfEverything();
        folk();
        pairs();
        numbers();
        tapeAndRules();
        finds();
        letters();
        translators();
        heldAndSacks();
        asked();
        coin();
        leavings();
        wishes();
        trials();
        full();
        fullOfLetters();
        fullOfPairs();
        fullOfTellings();
        lastDay();
        faults();
        System.out.println("RefusedTest: " + tried + " refused, " + wrong + " not as due");
        if (wrong != 0) {
            System.exit(1);
        }
    }

    private static long bit(boolean answer) {
        return answer ? 1 : 0;
    }

    private static void wrong(String what) {
        wrong++;
        System.out.println(what);
    }

    private static void same(String what, List<String> due, List<String> got) {
        String unlike = Sight.unlike(due, got);
        if (!unlike.isEmpty()) {
            wrong(what + ": due / is: " + unlike);
        }
    }

    private static void refused(String call, Made state, long want, Call asked) {
        tried++;
        ChildLetters x = state.office();
        List<String> before = Sight.of(x);
        long got = asked.on(x);
        if (got != want) {
            wrong(call + " answered " + got + ", due is " + want);
        }
        same(call + " changed", before, Sight.of(x));
        same("after " + call, goOn(state.office()), goOn(x));
    }

    private static void none(String call, Call asked) {
        refused(call, RefusedTest::rich, NO, asked);
    }

    private static void no(String call, Call asked) {
        refused(call, RefusedTest::rich, 0, asked);
    }

    private static void put(ChildLetters x, String signs) {
        for (int i = 0; i < signs.length(); i += 20) {
            int[] n = new int[5];
            for (int k = 0; k < 20; k++) {
                n[k / 4] = n[k / 4] << 8 | (i + k < signs.length() ? signs.charAt(i + k) & 255 : 0);
            }
            x.feed(n[0], n[1], n[2], n[3], n[4]);
        }
    }

    private static int write(ChildLetters x, int p, int by, int mark, String text) {
        put(x, text);
        return x.letter(p, by, mark, mark, mark, mark, text.length());
    }

    private static void days(ChildLetters x, int n) {
        for (int i = 0; i < n; i++) {
            x.day();
        }
    }

    /** 3 VILLAGES, 5 GIVERS, 7 CHILDREN, 5 PAIRS, 14 LETTERS in all STATES, and what else there is. */
    private static ChildLetters rich() {
        ChildLetters x = new ChildLetters();
        folkOf(x);
        lettersOf(x);
        x.gift(0, 1000);
        x.gift(2, 700);
        x.project(0, 100, 5);
        x.project(0, 50, 2);
        x.project(1, 5000, 3);
        x.build(0);
        x.project(0, 300, 7);
        x.project(1, 100, 4);
        x.leaves(5, 2);
        x.leaves(6, 1);
        x.leaves(6, NO);
        x.wish(1, 1, 1);
        x.wish(3, 31, 63);
        x.wish(4, 0, 5);
        x.trial(0b10111, 0b00011);
        x.outcome(0, 500);
        x.outcome(1, 20);
        x.outcome(2, 30);
        x.number(3, 4);
        x.number(4, 33);
        x.number(5, 15);
        x.number(6, 30);
        x.number(7, 900);
        put(x, "tape with aa\nand dogmore text A behind i");
        return x;
    }

    private static void folkOf(ChildLetters x) {
        x.village(1, 0);
        x.village(3, 2);
        x.village(60, 4095);
        int[] tongues = {0, 0, 1, 2, 0};
        for (int tongue : tongues) {
            x.giver(tongue);
        }
        int[][] children = {{0, 0, 0, -1}, {0, 0, 1, 0}, {1, 1, 2, -1}, {2, 0, 3, -1}, {0, 1, 4, 1}, {1, 0, 0, -1}, {0, 2, 1, -1}};
        for (int[] c : children) {
            x.child(c[0], c[1], c[2], c[3]);
        }
        x.pair(0, 0);
        x.pair(0, 1);
        x.pair(1, 2);
        x.pair(2, 3);
        x.pair(3, 4);
        x.end(4);
        x.translator(1 << 1, 0, 1, 0);
        x.translator(1 << 6, 0, 2, 1 << 3);
    }

    private static void lettersOf(ChildLetters x) {
        x.number(0, 1);
        x.number(1, 127);
        x.number(2, 20);
        String rules = "c:aa;h:hold;r:bad;n2:dog;n5:cat";
        put(x, rules);
        x.rules(rules.length());
        write(x, 0, 0, 40, "aa dog");
        write(x, 0, 1, 60, "bb");
        for (int i = 0; i < 4; i++) {
            write(x, 2, 0, 30 + i, "letter to be translated");
        }
        write(x, 3, 0, 7, "far\naway");
        write(x, 0, 0, 41, "hold it");
        write(x, 1, 0, 42, "bad");
        x.day();
        write(x, 1, 1, 9, "to be lost");
        x.day();
        x.lose(1);
        write(x, 0, 1, 61, "read");
        write(x, 0, 1, 62, "not yet aa read");
        x.day();
        x.number(0, 60);
        x.number(2, 1);
        write(x, 1, 0, 43, "in a sack");
        x.day();
        put(x, "aa dog\ncat bad");
        x.look(14);
        x.letter(1, 1, 1, 2, 3, 4, 14);
    }

    private static void somethingOfEverything() {
        ChildLetters x = rich();
        int[] states = {1, 1, 1, 1, 1, 5, 2, 1, 1};
        for (int s = 0; s < states.length; s++) {
            if (x.count(20 + s) != states[s]) {
                wrong("the office under test has " + x.count(20 + s) + " LETTERS in STATE " + s);
            }
        }
        if (x.count(13) != 2 || x.count(14) != 3 || x.count(11) != 40 || x.choice(0) != 0 || x.found(3, 0) != 2) {
            wrong("the office under test is not as it should be");
        }
        // asking for all there is changes nothing
        same("after a sight", goOn(rich()), goOn(x));
    }

    private static void note(List<String> told, String call, long answer) {
        told.add("then " + call + " = " + answer);
    }

    /** What an office answers from here on: what can't be asked now shows there. */
    private static List<String> goOn(ChildLetters x) {
        List<String> told = new ArrayList<>();
        note(told, "look", x.look(20));
        told.addAll(Sight.of(x));
        note(told, "letter", x.letter(0, 0, 50, 51, 52, 53, 20));
        note(told, "rules", x.rules(1));
        note(told, "letter", write(x, 2, 1, 55, "aa cat dog hold"));
        for (int g = 0; g < 16; g++) {
            note(told, "gift", x.gift(g, 999));
        }
        for (int v = 0; v < 6; v++) {
            note(told, "build", x.build(v));
        }
        note(told, "outcome", bit(x.outcome(4, 77)));
        note(told, "pairing", x.pairing());
        told.addAll(Sight.of(x));
        hands(x, told);
        for (int l = 0; l < x.count(6); l++) {
            note(told, "decide", bit(x.decide(l, l % 2 == 1)));
        }
        note(told, "lose", x.lose(3));
        days(x, 3);
        told.addAll(Sight.of(x));
        x.number(2, 20);
        x.number(0, 1);
        days(x, 70);
        told.addAll(Sight.of(x));
        return told;
    }

    /** The sums of a HAND show by how far it is unlike. */
    private static void hands(ChildLetters x, List<String> told) {
        for (int f = 0; f <= 160; f += 20) {
            x.number(4, f);
            for (int l = 0; l < x.count(6); l++) {
                note(told, "unlike", x.unlike(l));
            }
        }
    }

    private static void folk() {
        for (int way : new int[] {0, 61, -1, LOW, HIGH}) {
            none("village(" + way + ", 0)", x -> x.village(way, 0));
        }
        for (int flood : new int[] {-1, 4096, LOW, HIGH}) {
            none("village(1, " + flood + ")", x -> x.village(1, flood));
        }
        for (int tongue : new int[] {-1, 6, LOW, HIGH}) {
            none("giver(" + tongue + ")", x -> x.giver(tongue));
            none("child(0, " + tongue + ", 0, -1)", x -> x.child(0, tongue, 0, -1));
        }
        for (int village : new int[] {-1, 3, 5, LOW, HIGH}) {
            none("child(" + village + ", 0, 0, -1)", x -> x.child(village, 0, 0, -1));
        }
        for (int age : new int[] {-1, 5, LOW, HIGH}) {
            none("child(0, 0, " + age + ", -1)", x -> x.child(0, 0, age, -1));
        }
        for (int sibling : new int[] {-2, 7, 8, LOW, HIGH}) {
            none("child(0, 0, 0, " + sibling + ")", x -> x.child(0, 0, 0, sibling));
        }
    }

    private static void pairs() {
        for (int giver : new int[] {-1, 5, 16, LOW, HIGH}) {
            none("pair(" + giver + ", 4)", x -> x.pair(giver, 4));
        }
        for (int child : new int[] {-1, 7, 16, LOW, HIGH}) {
            none("pair(4, " + child + ")", x -> x.pair(4, child));
        }
        none("pair of a CHILD in one", x -> x.pair(4, 0));
        none("pair of a GIVER in two", x -> x.pair(0, 4));
        none("pair of a CHILD of whom a leaving is KNOWN", x -> x.pair(4, 5));
        for (int p : new int[] {-1, 5, 40, LOW, HIGH}) {
            no("end(" + p + ")", x -> bit(x.end(p)));
        }
        no("end of one that has", x -> bit(x.end(4)));
    }

    private static void numbers() {
        int[] least = {1, 1, 1, 1, 0, 0, 0, 0};
        int[] most = {60, 127, 20, 8, 400, 70, 85, 1000000};
        for (int which = 0; which < 8; which++) {
            int w = which;
            no("number(" + w + ") too small", x -> bit(x.number(w, least[w] - 1)));
            no("number(" + w + ") too large", x -> bit(x.number(w, most[w] + 1)));
            no("number(" + w + ", " + LOW + ")", x -> bit(x.number(w, LOW)));
            no("number(" + w + ", " + HIGH + ")", x -> bit(x.number(w, HIGH)));
        }
        for (int w : new int[] {-1, 8, LOW, HIGH}) {
            no("number(" + w + ", 1)", x -> bit(x.number(w, 1)));
        }
    }

    private static ChildLetters fullTape() {
        ChildLetters x = rich();
        for (int i = 0; i < 10; i++) {
            put(x, "c:aa;c:bb;c:cc;c:dd;");
        }
        return x;
    }

    private static void tapeAndRules() {
        refused("feed of a full tape", RefusedTest::fullTape, NO, x -> x.feed(1, 2, 3, 4, 5));
        refused("rules(201)", RefusedTest::fullTape, NO, x -> x.rules(201));
        for (int n : new int[] {41, 200, 201, -1, LOW, HIGH}) {
            none("rules(" + n + ")", x -> x.rules(n));
        }
    }

    private static void finds() {
        for (int n : new int[] {0, -1, 41, 160, 161, LOW, HIGH}) {
            none("look(" + n + ")", x -> x.look(n));
        }
        refused("look(161)", RefusedTest::fullTape, NO, x -> x.look(161));
        none("look of other signs", x -> x.look(31));
        none("look of other signs behind", x -> x.look(40));
        for (int i : new int[] {-1, 4, LOW, HIGH}) {
            none("found(" + i + ", 0)", x -> x.found(i, 0));
        }
        for (int what : new int[] {-1, 4, LOW, HIGH}) {
            none("found(0, " + what + ")", x -> x.found(0, what));
        }
    }

    private static void letters() {
        for (int p : new int[] {-1, 5, 40, LOW, HIGH}) {
            none("letter of PAIR " + p, x -> x.letter(p, 0, 1, 1, 1, 1, 20));
        }
        none("letter of one that has ENDED", x -> x.letter(4, 0, 1, 1, 1, 1, 20));
        for (int by : new int[] {-1, 2, LOW, HIGH}) {
            none("letter by " + by, x -> x.letter(0, by, 1, 1, 1, 1, 20));
        }
        for (int mark : new int[] {-1, 100, LOW, HIGH}) {
            none("letter with MARK a " + mark, x -> x.letter(0, 0, mark, 1, 1, 1, 20));
            none("letter with MARK b " + mark, x -> x.letter(0, 0, 1, mark, 1, 1, 20));
            none("letter with MARK c " + mark, x -> x.letter(0, 0, 1, 1, mark, 1, 20));
            none("letter with MARK d " + mark, x -> x.letter(0, 0, 1, 1, 1, mark, 20));
        }
        for (int n : new int[] {0, -1, 41, 160, 161, LOW, HIGH}) {
            none("letter of " + n, x -> x.letter(0, 0, 1, 1, 1, 1, n));
        }
        refused("letter of 161", RefusedTest::fullTape, NO, x -> x.letter(0, 0, 1, 1, 1, 1, 161));
        none("letter of other signs", x -> x.letter(0, 0, 1, 1, 1, 1, 31));
    }

    private static void translators() {
        for (int bits : new int[] {-1, 1 << 18, LOW, HIGH}) {
            none("translator(" + bits + ", 0, 1, 0)", x -> x.translator(bits, 0, 1, 0));
            none("translator(0, " + bits + ", 1, 0)", x -> x.translator(0, bits, 1, 0));
        }
        for (int perDay : new int[] {0, 5, -1, LOW, HIGH}) {
            none("translator(0, 0, " + perDay + ", 0)", x -> x.translator(0, 0, perDay, 0));
        }
        for (int off : new int[] {-1, 128, LOW, HIGH}) {
            none("translator(0, 0, 1, " + off + ")", x -> x.translator(0, 0, 1, off));
        }
    }

    private static void heldAndSacks() {
        ChildLetters rich = rich();
        for (int l = -1; l <= rich.count(6); l++) {
            int letter = l;
            if (rich.about(l, 0) != 3) {
                no("decide(" + l + ", true)", x -> bit(x.decide(letter, true)));
                no("decide(" + l + ", false)", x -> bit(x.decide(letter, false)));
            }
        }
        for (int l : new int[] {200, LOW, HIGH}) {
            no("decide(" + l + ", true)", x -> bit(x.decide(l, true)));
        }
        for (int i : new int[] {-1, 4, 200, LOW, HIGH}) {
            none("lose(" + i + ")", x -> x.lose(i));
        }
        none("lose of one that is there", x -> x.lose(0));
        none("lose of one that is LOST", x -> x.lose(1));
    }

    private static void asked() {
        for (int l : new int[] {-1, 14, 200, LOW, HIGH}) {
            none("about(" + l + ", 0)", x -> x.about(l, 0));
            none("unlike(" + l + ")", x -> x.unlike(l));
        }
        for (int what : new int[] {-1, 9, 16, 19, 200, LOW, HIGH}) {
            none("about(0, " + what + ")", x -> x.about(0, what));
        }
        for (int p : new int[] {-1, 5, 40, LOW, HIGH}) {
            none("hints(" + p + ")", x -> x.hints(p));
            none("of(" + p + ", 0)", x -> x.of(p, 0));
            none("silent(" + p + ")", x -> x.silent(p));
        }
        none("silent of one that has ENDED", x -> x.silent(4));
        for (int what : new int[] {-1, 6, LOW, HIGH}) {
            none("of(0, " + what + ")", x -> x.of(0, what));
            none("lag(" + what + ")", x -> x.lag(what));
        }
        for (int what : new int[] {-1, 16, 19, 29, 38, LOW, HIGH}) {
            none("count(" + what + ")", x -> x.count(what));
        }
    }

    private static void coin() {
        for (int p : new int[] {-1, 5, 40, LOW, HIGH}) {
            none("gift(" + p + ", 5)", x -> x.gift(p, 5));
        }
        none("gift of one that has ENDED", x -> x.gift(4, 5));
        for (int pence : new int[] {0, -1, 1000001, LOW, HIGH}) {
            none("gift(0, " + pence + ")", x -> x.gift(0, pence));
        }
        for (int v : new int[] {-1, 3, 6, LOW, HIGH}) {
            none("project(" + v + ", 1, 1)", x -> x.project(v, 1, 1));
            none("choice(" + v + ")", x -> x.choice(v));
            none("build(" + v + ")", x -> x.build(v));
        }
        none("build of a VILLAGE with too dear ones", x -> x.build(0));
        none("build of a VILLAGE with no PROJECTS", x -> x.build(2));
        for (int cost : new int[] {0, -1, 1000001, LOW, HIGH}) {
            none("project(0, " + cost + ", 1)", x -> x.project(0, cost, 1));
        }
        for (int worth : new int[] {-1, 1001, LOW, HIGH}) {
            none("project(0, 1, " + worth + ")", x -> x.project(0, 1, worth));
        }
        for (int what : new int[] {-1, 3, 9, 16, 19, 36, 39, 56, LOW, HIGH}) {
            refused("coin(" + what + ")", RefusedTest::rich, 0, x -> x.coin(what));
        }
    }

    private static void leavings() {
        for (int c : new int[] {-1, 7, 16, LOW, HIGH}) {
            no("leaves(" + c + ", 3)", x -> bit(x.leaves(c, 3)));
            none("left(" + c + ", 3)", x -> x.left(c, 3));
        }
        for (int day : new int[] {-2, 3600, LOW, HIGH}) {
            no("leaves(0, " + day + ")", x -> bit(x.leaves(0, day)));
            none("left(5, " + day + ")", x -> x.left(5, day));
            none("amiss(" + day + ")", x -> x.amiss(day));
        }
        none("left(5, -1)", x -> x.left(5, -1));
        none("amiss(-1)", x -> x.amiss(-1));
    }

    private static void wishes() {
        for (int g : new int[] {-1, 5, 16, LOW, HIGH}) {
            no("wish(" + g + ", 1, 1)", x -> bit(x.wish(g, 1, 1)));
        }
        for (int ages : new int[] {-1, 32, LOW, HIGH}) {
            no("wish(1, " + ages + ", 1)", x -> bit(x.wish(1, ages, 1)));
            no("wish(2, " + ages + ", 1)", x -> bit(x.wish(2, ages, 1)));
        }
        for (int villages : new int[] {-1, 64, LOW, HIGH}) {
            no("wish(1, 1, " + villages + ")", x -> bit(x.wish(1, 1, villages)));
            no("wish(2, 1, " + villages + ")", x -> bit(x.wish(2, 1, villages)));
        }
    }

    private static void trials() {
        for (int all : new int[] {-1, 128, 255, 65536, LOW, HIGH}) {
            no("trial(" + all + ", 0)", x -> bit(x.trial(all, 0)));
        }
        for (int drawn : new int[] {1, 3, 4, 64, -1, LOW, HIGH}) {
            no("trial(2 + 8 + 32, " + drawn + ")", x -> bit(x.trial(42, drawn)));
        }
        for (int c : new int[] {-1, 3, 5, 7, 16, 32, LOW, HIGH}) {
            no("outcome(" + c + ", 1)", x -> bit(x.outcome(c, 1)));
        }
        for (int n : new int[] {-2, 1000, LOW, HIGH}) {
            no("outcome(0, " + n + ")", x -> bit(x.outcome(0, n)));
            no("outcome(4, " + n + ")", x -> bit(x.outcome(4, n)));
        }
        for (int what : new int[] {-1, 3, LOW, HIGH}) {
            none("doubt(" + what + ")", x -> x.doubt(what));
        }
    }

    private static ChildLetters fullOffice() {
        ChildLetters x = rich();
        for (int i = 0; i < 16; i++) {
            x.village(2, 0);
            x.giver(1);
            x.child(1, 1, 1, 0);
            x.translator(1, 1, 1, 1);
            x.project(0, 5, 5);
        }
        return x;
    }

    private static void full() {
        refused("village 6", RefusedTest::fullOffice, NO, x -> x.village(1, 0));
        refused("giver 16", RefusedTest::fullOffice, NO, x -> x.giver(0));
        refused("child 16", RefusedTest::fullOffice, NO, x -> x.child(0, 0, 0, -1));
        refused("translator 6", RefusedTest::fullOffice, NO, x -> x.translator(2, 0, 4, 0));
        refused("project 12", RefusedTest::fullOffice, NO, x -> x.project(0, 1, 1000));
    }

    private static ChildLetters manyLetters() {
        ChildLetters x = rich();
        x.rules(1);
        while (x.count(6) < 200) {
            write(x, 0, 0, 5, "aa b");
        }
        put(x, "tape with aa\nand dog");
        return x;
    }

    private static void fullOfLetters() {
        refused("letter 200", RefusedTest::manyLetters, NO, x -> x.letter(0, 0, 1, 1, 1, 1, 20));
    }

    private static ChildLetters manyPairs() {
        ChildLetters x = rich();
        while (x.count(4) < 40) {
            x.end(x.pair(4, 4));
        }
        return x;
    }

    private static void fullOfPairs() {
        refused("pair 40", RefusedTest::manyPairs, NO, x -> x.pair(4, 4));
        refused("pairing with 40 PAIRS", RefusedTest::manyPairs, 0, x -> x.pairing());
    }

    private static ChildLetters manyTellings() {
        ChildLetters x = rich();
        while (x.count(15) < 100) {
            x.leaves(4, x.count(15));
        }
        return x;
    }

    private static void fullOfTellings() {
        refused("leaves 100 of one in a PAIR", RefusedTest::manyTellings, 0, x -> bit(x.leaves(0, 3)));
        refused("leaves 100, it has not", RefusedTest::manyTellings, 0, x -> bit(x.leaves(4, NO)));
    }

    private static ChildLetters late() {
        ChildLetters x = rich();
        days(x, 3599 - x.count(0));
        write(x, 0, 0, 5, "b");
        return x;
    }

    private static void lastDay() {
        refused("day() on DAY 3599", RefusedTest::late, NO, ChildLetters::day);
    }

    /** With a FAULT the RULES stay, and the tape alone is empty. */
    private static void faults() {
        for (String rules : new String[] {"q", "c:", "c:a;", "n8:a", "c:z;h:((a", "c:(((((((", "c:a;".repeat(13)}) {
            tried++;
            ChildLetters x = rich();
            ChildLetters twin = rich();
            x.rules(1);
            twin.rules(1);
            List<String> before = Sight.of(x);
            put(x, rules);
            if (x.rules(rules.length()) < 1000) {
                wrong("no FAULT in " + rules);
            }
            same("rules " + rules + " changed", before, Sight.of(x));
            same("after rules " + rules, goOn(twin), goOn(x));
        }
    }
}
