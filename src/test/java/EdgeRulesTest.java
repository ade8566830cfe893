/** Each bound in head 2 and in promises 8 to 11: the tape, RULES, FAULTS, TEXTS and FINDS. */
public final class EdgeRulesTest {
    private static final Probe P = new Probe();
    private static final String ATOMS = "abcdefghijklmnopqrstuvwxyz0123456789#@_.^";
    private static final String SIGNS = "abcdefghijklmnopqrstuvwxyz0123456789 \n";

    public static void main(String[] args) {
        tapeOf240();
        highestByteFirst();
        rulesOf200Bytes();
        lastOf200Bytes();
        rulesAgainAndAgain();
        rulesOfTheTapeAlone();
        rulesOfNoBytes();
        firstBytesOfTheTape();
        twelveRules();
        thirteenthIfItCanStand();
        headSigns();
        hintDigits();
        colons();
        rowOfOneItem();
        signsBehindAnItem();
        oneRepeatBehindAnAtom();
        signsInAGroup();
        theEndToo();
        sixOpenGroups();
        seventhStandsNowhere();
        firstFaultFromTheLeft();
        textOf1To160();
        textSigns();
        digitAtom();
        letterAtom();
        blankAtom();
        anyAtom();
        ownAtoms();
        borderAtom();
        anyNumberOfIt();
        oneOrMoreOfIt();
        oneOrNoneOfIt();
        groupsRepeated();
        oneSignOrMore();
        firstRuleThenLongest();
        behindTheFind();
        linesAhead();
        findsOfAllPlaces();
        foundBounds();
        foundTillLookFindsAnew();
        P.close("EdgeRulesTest");
    }

    private static void fault(String rules, int want) {
        P.fresh();
        P.due("rules " + rules, P.rules(rules), want);
        P.due("count(11) behind rules " + rules, P.x.count(11), 0);
        if (want != 0) {
            P.due("count(10) behind rules " + rules, P.x.count(10), 0);
        }
    }

    private static void find(String rules, String text, String want) {
        P.dueText(rules + " in " + text, P.finds(rules, text), want);
    }

    /** "NONE if that would be more than 240". */
    private static void tapeOf240() {
        P.fresh();
        for (int i = 1; i <= 12; i++) {
            P.due("feed " + i, P.x.feed(0, 0, 0, 0, 0), 20 * i);
        }
        P.due("feed 13", P.x.feed(0, 0, 0, 0, 0), -1);
        P.due("count(11)", P.x.count(11), 240);
        P.x.rules(0);
        P.due("feed of an empty tape", P.x.feed(0, 0, 0, 0, 0), 20);
    }

    /** "Twenty bytes come behind the tape, the highest of each int first". */
    private static void highestByteFirst() {
        P.onePair();
        P.x.feed(0x61626364, 0x65666768, 0x696a6b6c, 0x6d6e6f70, 0x71727374);
        P.x.letter(0, 0, 1, 1, 1, 1, 20);
        P.dueText("TEXT of twenty bytes", P.textOf(0), "abcdefghijklmnopqrst");
        // a byte of 255 in a negative int is one byte, and none of its neighbours
        P.x.feed(0xff626364, 0x6566ff68, 0x696a6bff, 0x6d6e6f70, 0xffffffff);
        P.due("look(1)", P.x.look(1), -1);
        P.due("rules(1)", P.x.rules(1), 1000);
        P.x.feed(0x61ff6364, 0, 0, 0, 0);
        P.due("look(1)", P.x.look(1), 0);
        P.due("look(2)", P.x.look(2), -1);
    }

    /** "RULES are a TEXT of at most 200 bytes"; "NONE: n is above 200". */
    private static void rulesOf200Bytes() {
        String longest = "c:" + "a".repeat(198);
        P.fresh();
        P.put(longest);
        P.due("count(11)", P.x.count(11), 200);
        P.due("rules(200)", P.x.rules(200), 0);
        P.due("count(10)", P.x.count(10), 1);
        P.put(longest + "a");
        P.due("rules(201)", P.x.rules(201), -1);
        P.due("count(11), the tape stays", P.x.count(11), 220);
        P.due("rules(240)", P.x.rules(240), -1);
        P.due("rules(largest)", P.x.rules(Integer.MAX_VALUE), -1);
        P.due("count(10)", P.x.count(10), 1);
        P.due("rules(200)", P.x.rules(200), 0);
        P.due("count(11)", P.x.count(11), 0);
    }

    /** Of 200 bytes the last ITEM counts like the first: of ITEMS alone, of groups, of RULES. */
    private static void lastOf200Bytes() {
        find("c:" + "a".repeat(196) + "|b", "zb", "0 1 1 0;");
        find("c:" + "a".repeat(99) + "|" + "b".repeat(98), "b".repeat(98), "0 0 98 0;");
        find("c:" + "(a)".repeat(65) + "a|b", "zb", "0 1 1 0;");
        find("c:" + "a|".repeat(98) + "bb", "zbb", "0 1 2 0;");
        find("c:" + "((((((a))))))|".repeat(14) + "bb", "zbb", "0 1 2 0;");
        find("c:(a)b;h:(c)d;n0:((e)f)g", "abcdefg", "0 0 2 0;1 2 2 0;2 4 3 0;");
    }

    /** RULES that are read again and again, whole ones and such with a FAULT in open groups, are as the first. */
    private static void rulesAgainAndAgain() {
        P.fresh();
        for (int i = 0; i < 10; i++) {
            P.due("rules of 200 bytes", P.rules("c:" + "a".repeat(196) + "|b"), 0);
            P.put("ba");
            P.due("look(2)", P.x.look(2), 1);
            P.due("rules with a FAULT in open groups", P.x.rules(1), 1000);
            P.due("rules with a FAULT in open groups", P.rules("h:z;c:(((a"), 1010);
            P.due("rules of one group", P.rules("h:((((((a))))));c:(b)c"), 0);
            P.put("bca");
            P.due("look(3)", P.x.look(3), 2);
            P.due("found(0, 0)", P.x.found(0, 0), 1);
            P.due("found(0, 2)", P.x.found(0, 2), 2);
            P.due("found(1, 0)", P.x.found(1, 0), 0);
            P.due("a seventh (", P.x.rules(0) + P.rules("h:(((((((a"), 3008);
        }
    }

    /** "NONE: ... it has not so many (the tape stays)". */
    private static void rulesOfTheTapeAlone() {
        P.fresh();
        P.due("rules(1) of an empty tape", P.x.rules(1), -1);
        P.put("c:aaaaaaaaaaaaaaaaaa");
        P.due("rules(21)", P.x.rules(21), -1);
        P.due("count(11)", P.x.count(11), 20);
        P.due("rules(20)", P.x.rules(20), 0);
        P.due("rules(-1)", P.x.rules(-1), -1);
        P.due("count(10)", P.x.count(10), 1);
    }

    /** "none: no RULES". */
    private static void rulesOfNoBytes() {
        P.fresh();
        P.rules("c:a");
        P.put("aaaa");
        P.due("rules(0)", P.x.rules(0), 0);
        P.due("count(10)", P.x.count(10), 0);
        P.due("count(11), empty then", P.x.count(11), 0);
        P.put("aaaa");
        P.due("look(4)", P.x.look(4), 0);
    }

    /** "The first n bytes of the tape (empty then, with a FAULT, too ...)": what is behind them is gone and no RULE. */
    private static void firstBytesOfTheTape() {
        P.fresh();
        P.put("c:a;c:bc");
        P.due("rules(7)", P.x.rules(7), 0);
        P.due("count(11)", P.x.count(11), 0);
        P.put("bcb");
        P.due("look(3)", P.x.look(3), 2);
        P.x.rules(0);
        P.put("c:a;c:bc");
        P.due("rules(4)", P.x.rules(4), 1004);
        P.due("count(11) behind a FAULT", P.x.count(11), 0);
    }

    /** "RULES (12 at most)". */
    private static void twelveRules() {
        String eleven = "c:a;".repeat(11);
        P.fresh();
        P.due("twelve", P.rules(eleven + "h:b"), 0);
        P.due("count(10)", P.x.count(10), 12);
        P.put("azb");
        P.due("look(3)", P.x.look(3), 2);
        P.due("found(0, 0)", P.x.found(0, 0), 0);
        P.due("found(1, 0)", P.x.found(1, 0), 11);
        P.due("found(1, 1)", P.x.found(1, 1), 2);
        P.x.rules(0);
        P.due("thirteen", P.rules(eleven + "h:b;c:d"), 2048);
        P.due("count(10), they stay", P.x.count(10), 0);
    }

    /** "2 a 13th RULE, at its letter (if that can stand there)". */
    private static void thirteenthIfItCanStand() {
        String twelve = "c:a;".repeat(12);
        for (int sign = 0; sign < 256; sign++) {
            boolean stands = "chrn".indexOf(sign) >= 0;
            fault(twelve + (char) sign, stands ? 2048 : 1048);
            fault(twelve + (char) sign + ":a", stands ? 2048 : 1048);
        }
        fault(twelve, 1048);
        // a FAULT ahead of it is the first
        fault("c:a;".repeat(11) + "c:;c:a", 1046);
        fault("c:a;".repeat(11) + "n8:a;c:a", 1045);
    }

    /** "what is done: c cut, h hold, r send back, or n and a digit": no other byte. */
    private static void headSigns() {
        for (int sign = 0; sign < 256; sign++) {
            boolean stands = "chr".indexOf(sign) >= 0;
            fault((char) sign + ":a", stands ? 0 : sign == 'n' ? 1001 : 1000);
            fault("c:a;" + (char) sign + ":a", stands ? 0 : sign == 'n' ? 1005 : 1004);
        }
        fault("n0:a", 0);
    }

    /** "n and a digit 0 to 7". */
    private static void hintDigits() {
        for (int sign = 0; sign < 256; sign++) {
            fault("n" + (char) sign + ":a", sign >= '0' && sign <= '7' ? 0 : 1001);
            fault("c" + (char) sign, sign == ':' ? 1002 : 1001);
        }
        fault("n", 1001);
    }

    /** ": (58)" stands behind what is done, and nothing else. */
    private static void colons() {
        for (int sign = 0; sign < 256; sign++) {
            fault("h" + (char) sign + "a", sign == 58 ? 0 : 1001);
            fault("n7" + (char) sign + "a", sign == 58 ? 0 : 1002);
        }
        fault("h", 1001);
        fault("n7", 1002);
    }

    /** "a ROW: one ITEM or more": what can stand first in it. */
    private static void rowOfOneItem() {
        for (int sign = 0; sign < 256; sign++) {
            boolean atom = ATOMS.indexOf(sign) >= 0;
            fault("c:" + (char) sign, atom ? 0 : sign == '(' ? 1003 : 1002);
            fault("c:b|" + (char) sign, atom ? 0 : sign == '(' ? 1005 : 1004);
            fault("c:(" + (char) sign + ")", atom ? 0 : sign == '(' ? 1004 : 1003);
        }
    }

    /** What can stand behind an ITEM: another, one of * + ?, |, and ; with a RULE behind it. */
    private static void signsBehindAnItem() {
        for (int sign = 0; sign < 256; sign++) {
            boolean atom = ATOMS.indexOf(sign) >= 0;
            boolean stands = atom || "*+?|".indexOf(sign) >= 0;
            int beyond = sign == '(' ? 1005 : sign == ';' ? 1004 : 1003;
            fault("c:a" + (char) sign + "b", stands ? 0 : beyond);
        }
        fault("c:a;b", 1004);
        fault("c:a;c:b", 0);
    }

    /** "behind it at times one of * ... + ... ?": one, and no second. */
    private static void oneRepeatBehindAnAtom() {
        for (char first : "*+?".toCharArray()) {
            fault("c:a" + first, 0);
            fault("c:(a)" + first, 0);
            for (char second : "*+?".toCharArray()) {
                fault("c:a" + first + second, 1004);
                fault("c:(a)" + first + second, 1006);
                fault("c:(a" + first + ")" + second, 0);
                fault("c:a" + first + "b" + second, 0);
            }
            fault("c:" + first, 1002);
            fault("c:a|" + first, 1004);
            fault("c:(" + first + ")", 1003);
        }
    }

    /** In a group no ; stands, and ) closes it once. */
    private static void signsInAGroup() {
        fault("c:(a)", 0);
        fault("c:(a;c:b)", 1004);
        fault("c:((a);c:b)", 1006);
        fault("c:(a));c:b", 1005);
        fault("c:a);c:b", 1003);
        fault("c:(a);c:b", 0);
        fault("c:(a|b)|c", 0);
        fault("c:(a|)", 1005);
        fault("c:(a|b", 1006);
        fault("c:()", 1003);
    }

    /** "1 what can't stand there (the end, too)": each first part of RULES that are whole. */
    private static void theEndToo() {
        String whole = "c:a(b|c)*;n3:^x+|y";
        boolean[] ends = new boolean[whole.length() + 1];
        for (int n : new int[] {0, 3, 8, 9, 14, 15, 16, 18}) {
            ends[n] = true;
        }
        for (int n = 0; n <= whole.length(); n++) {
            fault(whole.substring(0, n), ends[n] ? 0 : 1000 + n);
        }
    }

    /** "3 a seventh ( that is open in one another, at it". */
    private static void sixOpenGroups() {
        fault("c:" + "(".repeat(6) + "a" + ")".repeat(6), 0);
        fault("c:" + "(".repeat(7) + "a" + ")".repeat(7), 3008);
        fault("c:" + "(".repeat(7), 3008);
        fault("c:" + "(".repeat(6), 1008);
        fault("c:a" + "(b".repeat(6) + ")".repeat(6), 0);
        fault("c:a" + "(b".repeat(7) + ")".repeat(7), 3015);
        // twelve ( one behind another are six open ones at most
        fault("c:" + ("(".repeat(6) + "a" + ")".repeat(6)).repeat(2), 0);
        fault("c:" + "(a)".repeat(12), 0);
        fault("c:" + "(".repeat(6) + "a)(b)" + ")".repeat(5), 0);
        fault("c:" + "(".repeat(6) + "a)((b" + ")".repeat(7), 3011);
        // what the RULE ahead had open counts for nothing
        fault("c:" + "(".repeat(6) + "a" + ")".repeat(6) + ";h:" + "(".repeat(6) + "a" + ")".repeat(6), 0);
        fault("c:(((a)));h:" + "(".repeat(7) + "a", 3018);
    }

    /** A seventh ( is a FAULT 3 behind |, behind an ITEM and behind a repeat alike. */
    private static void seventhStandsNowhere() {
        fault("c:((((((a|(b)))))))", 3010);
        fault("c:((((((a(b)))))))", 3009);
        fault("c:((((((a*(b)))))))", 3010);
    }

    /** "FAULTS, the first from the left". */
    private static void firstFaultFromTheLeft() {
        fault("c:A(((((((a", 1002);
        fault("c:(((((((A", 3008);
        fault("q:a;c:*", 1000);
        fault("c:a;c:*;q:a", 1006);
        fault("c:a;".repeat(12) + "c:*", 2048);
        fault("c:*" + ";c:a".repeat(13), 1002);
    }

    /** "A LETTER's TEXT has 1 to 160 signs": "no such n (1 to 160), it has not so many". */
    private static void textOf1To160() {
        P.onePair();
        P.put("a".repeat(161));
        P.due("count(11)", P.x.count(11), 180);
        for (int n : new int[] {0, -1, 161, 180, 181, Integer.MIN_VALUE, Integer.MAX_VALUE}) {
            P.due("look(" + n + ")", P.x.look(n), -1);
            P.due("letter of " + n, P.x.letter(0, 0, 1, 1, 1, 1, n), -1);
        }
        P.due("look(1)", P.x.look(1), 0);
        P.due("look(160)", P.x.look(160), 0);
        P.due("count(11), it stays on the tape", P.x.count(11), 180);
        P.due("letter of 160", P.x.letter(0, 0, 1, 1, 1, 1, 160), 0);
        P.due("count(11), empty then", P.x.count(11), 0);
        P.due("look(1) of an empty tape", P.x.look(1), -1);
        P.due("letter of an empty tape", P.x.letter(0, 0, 1, 1, 1, 1, 1), -1);
        P.put("a".repeat(20));
        P.due("look(21)", P.x.look(21), -1);
        P.due("letter of 21", P.x.letter(0, 0, 1, 1, 1, 1, 21), -1);
        P.due("look(20)", P.x.look(20), 0);
        P.due("letter of 20", P.x.letter(0, 0, 1, 1, 1, 1, 20), 1);
        P.put("a");
        P.due("letter of 1", P.x.letter(0, 0, 1, 1, 1, 1, 1), 2);
    }

    /** "small letters, digits, blanks (32), line's ends (10)": no other byte, first or last; behind n all may stand. */
    private static void textSigns() {
        for (int sign = 0; sign < 256; sign++) {
            int want = SIGNS.indexOf(sign) >= 0 ? 0 : -1;
            P.onePair();
            P.put((char) sign + "a" + (char) sign);
            P.due("look(1) of " + sign, P.x.look(1), want);
            P.due("look(2) of " + sign, P.x.look(2), want);
            P.due("letter of " + sign, P.x.letter(0, 0, 1, 1, 1, 1, 2), want);
            P.x.rules(0);
            P.put("a" + (char) sign);
            P.due("look(2), the last " + sign, P.x.look(2), want);
            P.due("look(1), behind it " + sign, P.x.look(1), 0);
            P.due("letter, behind it " + sign, P.x.letter(0, 0, 1, 1, 1, 1, 1), want == 0 ? 1 : 0);
        }
    }

    private static void takes(char atom, String some) {
        P.fresh();
        P.due("rules c:" + atom, P.rules("c:" + atom), 0);
        for (char sign : SIGNS.toCharArray()) {
            P.put(String.valueOf(sign));
            P.due(atom + " takes " + (int) sign, P.x.look(1), some.indexOf(sign) >= 0 ? 1 : 0);
            P.x.rules(1);
            P.rules("c:" + atom);
        }
    }

    /** "# (any digit)". */
    private static void digitAtom() {
        takes('#', "0123456789");
    }

    /** "@ (any small letter)". */
    private static void letterAtom() {
        takes('@', "abcdefghijklmnopqrstuvwxyz");
    }

    /** "_ (a blank or a line's end)": the sign, not where the TEXT ends. */
    private static void blankAtom() {
        takes('_', " \n");
        find("c:a_", "a", "");
        find("c:_a", "a", "");
    }

    /** ". (any sign)". */
    private static void anyAtom() {
        takes('.', SIGNS);
        find("c:a.", "a", "");
    }

    /** "a small letter or a digit (itself)". */
    private static void ownAtoms() {
        for (char atom : "az09mn".toCharArray()) {
            takes(atom, String.valueOf(atom));
        }
    }

    /** "^ (a border: nothing itself; of the signs beside just one is a letter or a digit; the text's ends are none)". */
    private static void borderAtom() {
        for (char behind : SIGNS.toCharArray()) {
            boolean word = behind != ' ' && behind != '\n';
            find("c:_^.", " " + behind, word ? "0 0 2 0;" : "");
            find("c:a^.", "a" + behind, word ? "" : "0 0 2 0;");
            find("c:^.", String.valueOf(behind), word ? "0 0 1 0;" : "");
            find("c:.^", String.valueOf(behind), word ? "0 0 1 0;" : "");
        }
        find("c:^", "a", "");
        find("c:^+a^+", "a", "0 0 1 0;");
        find("c:^^^a", "a", "0 0 1 0;");
    }

    /** "* (any number of it, none too)". */
    private static void anyNumberOfIt() {
        find("c:ba*c", "bc", "0 0 2 0;");
        find("c:ba*c", "bac", "0 0 3 0;");
        find("c:ba*c", "b" + "a".repeat(158) + "c", "0 0 160 0;");
        find("c:ba*c", "bbc", "0 1 2 0;");
    }

    /** "+ (one or more)". */
    private static void oneOrMoreOfIt() {
        find("c:ba+c", "bc", "");
        find("c:ba+c", "bac", "0 0 3 0;");
        find("c:ba+c", "b" + "a".repeat(158) + "c", "0 0 160 0;");
    }

    /** "? (one or none)". */
    private static void oneOrNoneOfIt() {
        find("c:ba?c", "bc", "0 0 2 0;");
        find("c:ba?c", "bac", "0 0 3 0;");
        find("c:ba?c", "baac", "");
    }

    /** The same of a group, one in another, and one that can be nothing. */
    private static void groupsRepeated() {
        find("c:x(ab)*y", "xy", "0 0 2 0;");
        find("c:x(ab)+y", "xy", "");
        find("c:x(ab)?y", "xababy", "");
        find("c:x(ab)*y", "xababy", "0 0 6 0;");
        find("c:x(a?)+y", "xy", "0 0 2 0;");
        find("c:x(a?)+y", "xaay", "0 0 4 0;");
        find("c:x(a*|b)?y", "xaay", "0 0 4 0;");
        find("c:x((a|b)+c?)*y", "xabcby", "0 0 6 0;");
        find("c:x((a|b)+c?)*y", "xccy", "");
        find("c:((((((a)+)+)+)+)+)+", "aaa", "0 0 3 0;");
    }

    /** "takes a row of signs from that place on (one or more of them)": nothing is no FIND. */
    private static void oneSignOrMore() {
        find("c:a*", "b", "");
        find("c:a?", "b", "");
        find("c:(a*b?)*", "c", "");
        find("c:^", "a", "");
        find("c:a*", "ab", "0 0 1 0;");
        // a RULE that takes nothing there leaves it to the next one
        find("c:a*;h:b", "ab", "0 0 1 0;1 1 1 0;");
        find("c:^?;h:.", "b", "1 0 1 0;");
    }

    /** "the first one of which some way takes a row"; "the longest such row". */
    private static void firstRuleThenLongest() {
        find("c:a;h:aaa", "aaa", "0 0 1 0;0 1 1 0;0 2 1 0;");
        find("c:b;h:aaa;c:a", "aaa", "1 0 3 0;");
        find("c:a|aa", "aaa", "0 0 2 0;0 2 1 0;");
        find("c:aa|a", "aaa", "0 0 2 0;0 2 1 0;");
        find("c:a?(ab)?", "aab", "0 0 3 0;");
        find("c:a?(ab)?", "ab", "0 0 2 0;");
    }

    /** "then it goes on behind that; else at the next place". */
    private static void behindTheFind() {
        find("c:aba", "ababa", "0 0 3 0;");
        find("c:aba", "abaaba", "0 0 3 0;0 3 3 0;");
        find("c:aba", "babab", "0 1 3 0;");
        find("c:ab", "aab", "0 1 2 0;");
    }

    /** "LINE of a FIND: how many line's ends stand ahead of it", not in it. */
    private static void linesAhead() {
        find("c:a", "a", "0 0 1 0;");
        find("c:a", "\na", "0 1 1 1;");
        find("c:_a", "\na", "0 0 2 0;");
        find("c:_a;h:b", "\nab", "0 0 2 0;1 2 1 1;");
        find("c:b", " b", "0 1 1 0;");
        StringBuilder want = new StringBuilder();
        for (int i = 0; i < 160; i++) {
            want.append("0 ").append(i).append(" 1 ").append(i).append(';');
        }
        find("c:_", "\n".repeat(160), want.toString());
    }

    /** As many FINDS as a TEXT has signs, and one as long as a TEXT. */
    private static void findsOfAllPlaces() {
        P.fresh();
        P.rules("c:.");
        P.put("a".repeat(160));
        P.due("look(160)", P.x.look(160), 160);
        P.due("found(159, 1)", P.x.found(159, 1), 159);
        P.due("found(160, 1)", P.x.found(160, 1), -1);
        find("c:.+", "a".repeat(160), "0 0 160 0;");
        find("c:" + "a".repeat(160), "a".repeat(160), "0 0 160 0;");
        find("c:" + "a".repeat(161), "a".repeat(160), "");
        find("c:" + ".".repeat(159) + "b", "a".repeat(159) + "b", "0 0 160 0;");
    }

    /** "FIND i, what 0 .. 3 ... NONE for others." */
    private static void foundBounds() {
        P.fresh();
        P.rules("c:x;c:bb");
        P.put("a\nbb");
        P.due("found(0, 0) of none", P.x.found(0, 0), -1);
        P.due("look(4)", P.x.look(4), 1);
        int[] want = {-1, 1, 2, 2, 1, -1};
        for (int what = -1; what <= 4; what++) {
            P.due("found(0, " + what + ")", P.x.found(0, what), want[what + 1]);
            P.due("found(1, " + what + ")", P.x.found(1, what), -1);
            P.due("found(-1, " + what + ")", P.x.found(-1, what), -1);
        }
    }

    /** "They can be asked by found() till look() finds anew (what is READ, or other RULES, change nothing of them)." */
    private static void foundTillLookFindsAnew() {
        P.onePair();
        P.rules("c:ab");
        P.put("zzab A");
        P.due("look(4)", P.x.look(4), 1);
        P.due("look(6), refused", P.x.look(6), -1);
        P.due("found(0, 1)", P.x.found(0, 1), 2);
        P.due("look(0), refused", P.x.look(0), -1);
        P.due("found(0, 1)", P.x.found(0, 1), 2);
        P.rules("q");
        P.due("found(0, 1) behind a FAULT", P.x.found(0, 1), 2);
        P.letter(0, 0, 1, "ababab");
        P.days(2);
        P.due("about(0, 8)", P.x.about(0, 8), 3);
        P.due("found(0, 1) behind what is READ", P.x.found(0, 1), 2);
        P.rules("h:ab");
        P.letter(0, 0, 1, "ababab");
        P.days(2);
        P.x.decide(1, true);
        P.x.rules(0);
        P.due("found(0, 1) behind other RULES", P.x.found(0, 1), 2);
        P.due("found(1, 1)", P.x.found(1, 1), -1);
        P.put("c");
        P.due("look(1)", P.x.look(1), 0);
        P.due("found(0, 1) behind look", P.x.found(0, 1), -1);
    }
}
