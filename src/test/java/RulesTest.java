/** Promises 8 to 11: the tape, RULES, FAULTS and FINDS. */
public final class RulesTest {
    private static final Probe P = new Probe();

    public static void main(String[] args) {
        tape();
        faults();
        faultsOfNumber();
        rulesStay();
        manyRules();
        atoms();
        repeats();
        choices();
        borders();
        firstAndLongest();
        lines();
        lookRefuses();
        foundStays();
        longTexts();
        P.close("RulesTest");
    }

    private static void tape() {
        P.fresh();
        for (int i = 1; i <= 12; i++) {
            P.due("feed " + i, P.x.feed(0, 0, 0, 0, 0), 20 * i);
        }
        P.due("feed 13", P.x.feed(0, 0, 0, 0, 0), -1);
        P.due("count(11)", P.x.count(11), 240);
        P.due("rules(201)", P.x.rules(201), -1);
        P.due("rules(-1)", P.x.rules(-1), -1);
        P.due("count(11)", P.x.count(11), 240);
        P.due("rules(200)", P.x.rules(200), 1000);
        P.due("count(11)", P.x.count(11), 0);
        P.due("rules(1)", P.x.rules(1), -1);
        P.due("rules(0)", P.x.rules(0), 0);
        // the highest byte of each int comes first, and a byte above 127 is no smaller sign
        P.due("feed", P.x.feed(0x633a6162, 0x633a61e2, 0, 0, 0), 20);
        P.due("look(8)", P.x.look(8), -1);
        P.due("rules(4)", P.x.rules(4), 0);
        P.due("feed", P.x.feed(0x633a61e2, 0, 0, 0, 0), 20);
        P.due("rules(4)", P.x.rules(4), 1003);
        P.due("count(10)", P.x.count(10), 1);
    }

    private static void fault(String rules, int want) {
        P.fresh();
        P.due("rules " + rules, P.rules(rules), want);
        P.due("count(10) of " + rules, P.x.count(10), want == 0 ? rules.chars().filter(c -> c == ';').count() + 1 : 0);
        P.due("count(11) of " + rules, P.x.count(11), 0);
    }

    private static void faults() {
        fault("x:a", 1000);
        fault(":a", 1000);
        fault(";", 1000);
        fault("C:a", 1000);
        fault("c", 1001);
        fault("ca:a", 1001);
        fault("c:", 1002);
        fault("n", 1001);
        fault("n8:a", 1001);
        fault("n/:a", 1001);
        fault("n:a", 1001);
        fault("n7", 1002);
        fault("n7a", 1002);
        fault("n7:a", 0);
        fault("n0:a", 0);
        fault("h0:a", 1001);
        fault("c:;c:a", 1002);
        fault("c:a;", 1004);
        fault("c:a;;", 1004);
        fault("c:a;c:b", 0);
        fault("c:*", 1002);
        fault("c:+a", 1002);
        fault("c:?", 1002);
        fault("c:a**", 1004);
        fault("c:a+?", 1004);
        fault("c:a?*b", 1004);
        fault("c:(a*)*", 0);
        fault("c:|a", 1002);
        fault("c:a|", 1004);
        fault("c:a||b", 1004);
        fault("c:a|*", 1004);
        fault("c:a*|b+|c?", 0);
        fault("c:()", 1003);
        fault("c:(a", 1004);
        fault("c:(a;c:b)", 1004);
        fault("c:(a|)", 1005);
        fault("c:a)", 1003);
        fault("c:(a))", 1005);
        fault("c:(*a)", 1003);
        fault("c:A", 1002);
        fault("c:a b", 1003);
        fault("c:a\n", 1003);
        fault("c::", 1002);
        fault("c:a:", 1003);
        fault("c:-", 1002);
        fault("c:`", 1002);
        fault("c:{", 1002);
        fault("c:/", 1002);
        fault("c:az09#@_.^", 0);
        fault("r:^*;h:(a|b)?;n3:._", 0);
    }

    private static void faultsOfNumber() {
        String eleven = "c:a;c:a;c:a;c:a;c:a;c:a;c:a;c:a;c:a;c:a;c:a;";
        fault(eleven + "h:b", 0);
        fault(eleven + "h:b;", 1048);
        fault(eleven + "h:b;r:c", 2048);
        fault(eleven + "h:b;n", 2048);
        fault(eleven + "h:b;a:c", 1048);
        fault(eleven + "h:;c:a", 1046);
        fault("c:((((((a))))))", 0);
        fault("c:(((((((a)))))))", 3008);
        fault("c:(((((((", 3008);
        fault("c:(((((()", 1008);
        fault("c:((((((a", 1009);
        fault("c:((((((a))))))((((((b))))))", 0);
        fault("c:(((a))(((((b", 1014);
        fault("c:(((a))((((((b", 3013);
        fault("c:a;h:((((((a))))))|(((((((b)))))))", 3026);
        String longest = "c:" + "a".repeat(198);
        fault(longest, 0);
        P.fresh();
        P.put(longest + "b");
        P.due("rules(201)", P.x.rules(201), -1);
        P.due("rules(200)", P.x.rules(200), 0);
        fault("c:" + "(a)".repeat(66), 0);
        fault("c:" + "(a|b)*".repeat(33), 0);
        fault("c:" + "((((((a))))))".repeat(15), 0);
    }

    private static void rulesStay() {
        P.fresh();
        P.rules("c:ab;h:b");
        P.due("rules with a fault", P.rules("c:a;c:"), 1006);
        P.due("count(10)", P.x.count(10), 2);
        P.put("xxab");
        P.due("look(4)", P.x.look(4), 1);
        P.due("found(0, 1)", P.x.found(0, 1), 2);
        P.due("rules(0)", P.x.rules(0), 0);
        P.due("count(10)", P.x.count(10), 0);
        P.put("xxab");
        P.due("look(4) of no RULES", P.x.look(4), 0);
        P.due("found(0, 1) of no FINDS", P.x.found(0, 1), -1);
    }

    /** One office reads RULES again and again, with a FAULT in an open group too. */
    private static void manyRules() {
        P.fresh();
        P.rules("c:b");
        for (int i = 0; i < 6; i++) {
            P.due("rules with a fault in a group", P.rules("c:z;h:((a"), 1009);
            P.due("count(10)", P.x.count(10), 1);
            P.due("rules of all bytes", P.rules("c:" + "a".repeat(150) + "|" + "b".repeat(47)), 0);
            P.due("rules with a fault", P.rules("q"), 1000);
            P.due("count(10)", P.x.count(10), 1);
        }
        P.put("ab" + "b".repeat(47));
        P.due("look(49)", P.x.look(49), 1);
        P.due("found(0, 1)", P.x.found(0, 1), 1);
        P.due("found(0, 2)", P.x.found(0, 2), 47);
        P.x.rules(0);
        P.rules("c:" + "a".repeat(150) + "|" + "b".repeat(47));
        P.put("b" + "a".repeat(151));
        P.due("look(152)", P.x.look(152), 1);
        P.due("found(0, 1)", P.x.found(0, 1), 1);
        P.due("found(0, 2)", P.x.found(0, 2), 150);
    }

    private static void find(String rules, String text, String want) {
        P.dueText(rules + " in " + text, P.finds(rules, text), want);
    }

    private static void atoms() {
        find("c:a", "bab", "0 1 1 0;");
        find("c:5", "4567", "0 1 1 0;");
        find("c:##", "a12b3", "0 1 2 0;");
        find("c:@@", "1ab2c", "0 1 2 0;");
        find("c:@", "09az", "0 2 1 0;0 3 1 0;");
        find("c:#", "09az", "0 0 1 0;0 1 1 0;");
        find("c:_", "a b\nc", "0 1 1 0;0 3 1 0;");
        find("c:a.b", "a b a\nb", "0 0 3 0;0 4 3 0;");
        find("c:.", "a\n ", "0 0 1 0;0 1 1 0;0 2 1 1;");
        find("c:abc", "ababc", "0 2 3 0;");
    }

    private static void repeats() {
        find("c:a*", "baac", "0 1 2 0;");
        find("c:ba*c", "bcbaac", "0 0 2 0;0 2 4 0;");
        find("c:ba+c", "bcbaac", "0 2 4 0;");
        find("c:ba?c", "bcbacbaac", "0 0 2 0;0 2 3 0;");
        find("c:(ab)+", "ababa", "0 0 4 0;");
        find("c:(ab)*a", "ababa", "0 0 5 0;");
        find("c:(a*)*", "aab", "0 0 2 0;");
        find("c:(a?b?)+", "abba", "0 0 4 0;");
        find("c:((a|b)*c)*d", "abcacd", "0 0 6 0;");
        find("c:(a+b?)+", "aabab", "0 0 5 0;");
        find("c:a*", "bbb", "");
        find("c:(a|b?)*", "ccc", "");
        find("c:.*", "ab\ncd", "0 0 5 0;");
        find("c:a.*", "bbabb", "0 2 3 0;");
    }

    private static void choices() {
        find("c:a|ab", "abb", "0 0 2 0;");
        find("c:ab|a", "aab", "0 0 1 0;0 1 2 0;");
        find("c:(a|ab)(c|bcd)", "abcd", "0 0 4 0;");
        find("c:a(b|c|d)e", "abeaceadeafe", "0 0 3 0;0 3 3 0;0 6 3 0;");
        find("c:(a|b)*", "abba", "0 0 4 0;");
        find("c:x(a|b|)y".replace("|)", "|c)"), "xcy", "0 0 3 0;");
        find("c:a|b|c", "dcba", "0 1 1 0;0 2 1 0;0 3 1 0;");
    }

    private static void borders() {
        find("c:^a^", "a ba a", "0 0 1 0;0 5 1 0;");
        find("c:^a", "aa", "0 0 1 0;");
        find("c:a^", "aa", "0 1 1 0;");
        find("c:^_", "a  b", "0 1 1 0;");
        find("c:_^", "a  b", "0 2 1 0;");
        find("c:^", "a b", "");
        find("c:a^b", "ab", "");
        find("c:^^a", "ba a", "0 3 1 0;");
        find("c:a^1", "a1", "");
        find("c:(^a|b)*", "abab", "0 0 2 0;0 3 1 0;");
        find("c:^?a", "ba", "0 1 1 0;");
        find("c:^*a", "ba", "0 1 1 0;");
        find("c:^+a", "ba", "");
        find("c:(^.)+", "a b", "0 0 3 0;");
        find("c:_^", "a ", "");
        find("c:^_", " a", "");
        // what lies behind the n bytes on the tape is not beside
        P.fresh();
        P.rules("c:a^");
        P.put("baab");
        P.due("look(3)", P.x.look(3), 1);
        P.due("found(0, 1)", P.x.found(0, 1), 2);
    }

    private static void firstAndLongest() {
        find("c:a;h:ab", "ab", "0 0 1 0;");
        find("c:b;h:ab", "ab", "1 0 2 0;");
        find("c:b*;h:a", "ab", "1 0 1 0;0 1 1 0;");
        find("r:ab;n2:(ab)+;c:b", "ababb", "0 0 2 0;0 2 2 0;2 4 1 0;");
        find("c:aa", "aaaaa", "0 0 2 0;0 2 2 0;");
        find("c:abc|b", "abab", "0 1 1 0;0 3 1 0;");
    }

    private static void lines() {
        find("c:a", "a\na\n\na", "0 0 1 0;0 2 1 1;0 5 1 3;");
        find("c:\u005f", "\n\n", "0 0 1 0;0 1 1 1;");
        find("c:_a;c:b", "\nab\nb", "0 0 2 0;1 2 1 1;1 4 1 2;");
        find("c:a_a;c:b", "a\nab", "0 0 3 0;1 3 1 1;");
    }

    private static void lookRefuses() {
        P.fresh();
        P.rules("c:a");
        P.put("aaA");
        P.due("look(2)", P.x.look(2), 2);
        P.due("look(3)", P.x.look(3), -1);
        P.due("look(0)", P.x.look(0), -1);
        P.due("look(-1)", P.x.look(-1), -1);
        P.due("look(21)", P.x.look(21), -1);
        P.due("count(11)", P.x.count(11), 20);
        P.due("found(1, 1)", P.x.found(1, 1), 1);
        P.due("found(-1, 1)", P.x.found(-1, 1), -1);
        P.due("found(2, 1)", P.x.found(2, 1), -1);
        P.due("found(0, -1)", P.x.found(0, -1), -1);
        P.due("found(0, 4)", P.x.found(0, 4), -1);
        for (String other : new String[] {"-", "/", ":", "`", "{", "\t", "\r", "\u0000", "\u00e9"}) {
            P.fresh();
            P.put("a" + other);
            P.due("look(2) with another sign", P.x.look(2), -1);
            P.due("look(1)", P.x.look(1), 0);
            P.fresh();
            P.put(other + "a");
            P.due("look(2) with another sign first", P.x.look(2), -1);
        }
        P.fresh();
        P.put("az09 \n");
        P.due("look(6)", P.x.look(6), 0);
    }

    private static void foundStays() {
        P.onePair();
        P.rules("c:ab;n1:c");
        P.put("abc");
        P.due("look(3)", P.x.look(3), 2);
        P.x.rules(0);
        P.letter(0, 0, 1, "zzzab");
        P.rules("h:z");
        P.days(3);
        P.due("found(0, 0)", P.x.found(0, 0), 0);
        P.due("found(0, 2)", P.x.found(0, 2), 2);
        P.due("found(1, 0)", P.x.found(1, 0), 1);
        P.due("found(1, 1)", P.x.found(1, 1), 2);
        P.put("zq");
        P.due("look(2)", P.x.look(2), 1);
        P.due("found(1, 1)", P.x.found(1, 1), -1);
    }

    private static void longTexts() {
        P.fresh();
        P.rules("c:a;c:b");
        P.put("ab".repeat(80) + "a");
        P.due("look(161)", P.x.look(161), -1);
        P.due("look(160)", P.x.look(160), 160);
        P.due("found(159, 0)", P.x.found(159, 0), 1);
        P.due("found(159, 1)", P.x.found(159, 1), 159);
        P.due("found(160, 1)", P.x.found(160, 1), -1);
        P.fresh();
        P.rules("c:(((a*b?)*c?)*d?)*e");
        P.put("abcd".repeat(39) + "aaae");
        P.due("look(160)", P.x.look(160), 1);
        P.due("found(0, 2)", P.x.found(0, 2), 160);
        P.fresh();
        P.rules("c:((((((a*)*)*)*)*)*)*b");
        P.put("a".repeat(160));
        P.due("look(160)", P.x.look(160), 0);
    }
}
