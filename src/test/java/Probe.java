/** An office under test, with texts for its tape, and a count of answers that are not as due. */
final class Probe {
    static final int NONE = ChildLetters.NONE;

    ChildLetters x = new ChildLetters();
    private int wrong;
    private int asked;

    void fresh() {
        x = new ChildLetters();
    }

    void due(String call, long got, long want) {
        asked++;
        if (got != want) {
            wrong++;
            System.out.println(call + " answered " + got + ", due is " + want);
        }
    }

    void due(String call, boolean got, boolean want) {
        due(call, got ? 1 : 0, want ? 1 : 0);
    }

    /** The signs come behind the tape, with zeros up to a whole row of twenty: what feed answered last. */
    int put(String signs) {
        int last = NONE;
        for (int i = 0; i < signs.length(); i += 20) {
            last = x.feed(four(signs, i), four(signs, i + 4), four(signs, i + 8), four(signs, i + 12), four(signs, i + 16));
        }
        return last;
    }

    private static int four(String signs, int from) {
        int n = 0;
        for (int i = from; i < from + 4; i++) {
            n = n << 8 | (i < signs.length() ? signs.charAt(i) & 255 : 0);
        }
        return n;
    }

    /** RULES from a text; the tape must be empty. */
    int rules(String signs) {
        put(signs);
        return x.rules(signs.length());
    }

    /** FINDS of RULES in a text, on a fresh office: "rule place length line;" for each. */
    String finds(String rules, String text) {
        fresh();
        due("rules " + rules, rules(rules), 0);
        put(text);
        int n = x.look(text.length());
        StringBuilder told = new StringBuilder();
        for (int i = 0; i < n; i++) {
            for (int what = 0; what < 4; what++) {
                told.append(x.found(i, what)).append(what < 3 ? ' ' : ';');
            }
        }
        due("found(" + n + ", 0)", x.found(n, 0), NONE);
        return told.toString();
    }

    void dueText(String call, String got, String want) {
        asked++;
        if (!got.equals(want)) {
            wrong++;
            System.out.println(call + " answered " + got + ", due is " + want);
        }
    }

    /** A LETTER with like MARKS; the tape must be empty. */
    int letter(int p, int by, int mark, String text) {
        put(text);
        return x.letter(p, by, mark, mark, mark, mark, text.length());
    }

    /** The TEXT of a LETTER as it is now. */
    String textOf(int l) {
        StringBuilder text = new StringBuilder();
        for (int i = 0; i < x.about(l, 7); i++) {
            text.append((char) x.about(l, 20 + i));
        }
        return text.toString();
    }

    void days(int n) {
        for (int i = 0; i < n; i++) {
            x.day();
        }
    }

    /** A VILLAGE one DAY away, a GIVER and a CHILD of one TONGUE, and their PAIR 0; SACKS go daily for a DAY. */
    void onePair() {
        fresh();
        x.village(1, 0);
        x.giver(0);
        x.child(0, 0, 0, NONE);
        x.pair(0, 0);
        x.number(0, 1);
        x.number(1, 127);
    }

    void close(String name) {
        System.out.println(name + ": " + asked + " answers, " + wrong + " not as due");
        if (wrong != 0) {
            System.exit(1);
        }
    }
}
