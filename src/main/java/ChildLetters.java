/** An office that sends letters and coin between givers and children far away. */
public final class ChildLetters {
    public static final int NONE = -1;

    private static final int LAST_DAY = 3599;
    private static final int WEEK_DAYS = 7;
    private static final int MONTH_DAYS = 30;
    private static final int YEAR_DAYS = 360;
    private static final int YEAR_MONTHS = 12;

    private static final int MOST_TAPE = 240;
    private static final int MOST_RULE_BYTES = 200;
    private static final int MOST_RULES = 12;
    private static final int MOST_OPEN = 6;
    private static final int MOST_TEXT = 160;
    private static final int MOST_VILLAGES = 6;
    private static final int MOST_FOLK = 16;
    private static final int MOST_PAIRS = 40;
    private static final int MOST_TELLINGS = 100;
    private static final int MOST_LETTERS = 200;
    private static final int MOST_PROJECTS = 12;
    private static final int TONGUES = 6;
    private static final int WIDTH = 6;
    private static final int MARKS = 4;

    private static final int BLANK = 32;
    private static final int LINE_END = 10;

    private static final int WAITING = 0;
    private static final int IN_SACK = 1;
    private static final int TO_READ = 2;
    private static final int HELD = 3;
    private static final int TO_TRANSLATE = 4;
    private static final int ON_WAY = 5;
    private static final int COME = 6;
    private static final int BACK = 7;
    private static final int LOST = 8;
    private static final int LAGS = 6;

    private static final int SACK_DAYS = 0;
    private static final int SACK_WEEKDAYS = 1;
    private static final int READ_A_DAY = 2;
    private static final int MOST_HINTS = 3;
    private static final int MOST_UNLIKE = 4;
    private static final int OFFICE_PART = 5;
    private static final int VILLAGE_PART = 6;
    private static final int CHILD_YEAR = 7;
    private static final int NUMBERS = 8;
    private static final int[] LEAST_NUMBER = {1, 1, 1, 1, 0, 0, 0, 0};
    private static final int[] MOST_NUMBER = {60, 127, 20, 8, 400, 100, 100, 1000000};

    private int today;
    private final char[] tape;
    private int tapeSize;
    private final int[] numbers;
    private Rules rules;
    private Rules spareRules;
    private final Finds looked;
    private final Folk folk;
    private final Post post;
    private final Turn turn;
    private final Coins coins;
    private final Wishes wishes;
    private final Trial study;

    public ChildLetters() {
        tape = new char[MOST_TAPE];
        numbers = new int[] {7, 2, 5, 3, 60, 10, 40, 5000};
        rules = new Rules();
        spareRules = new Rules();
        looked = new Finds();
        folk = new Folk();
        post = new Post(folk, numbers);
        turn = new Turn();
        coins = new Coins(numbers);
        wishes = new Wishes();
        study = new Trial();
    }

    public int village(int way, int flood) {
        if (!within(way, 1, 60) || !within(flood, 0, (1 << YEAR_MONTHS) - 1)) {
            return NONE;
        }
        return folk.addVillage(way, flood);
    }

    public int giver(int tongue) {
        return within(tongue, 0, TONGUES - 1) ? folk.addGiver(tongue) : NONE;
    }

    public int child(int village, int tongue, int age, int sibling) {
        if (!folk.hasVillage(village) || !within(tongue, 0, TONGUES - 1) || !within(age, 0, 4)) {
            return NONE;
        }
        if (sibling != NONE && !folk.hasChild(sibling)) {
            return NONE;
        }
        return folk.addChild(village, tongue, age, sibling);
    }

    public int pair(int giver, int child) {
        if (!folk.hasGiver(giver) || !folk.isFree(child, today) || !folk.hasRoom(giver)) {
            return NONE;
        }
        return folk.addPair(giver, child, today);
    }

    public boolean end(int p) {
        Pair pair = folk.openPairAt(p);
        if (pair == null) {
            return false;
        }
        pair.ended = today;
        return true;
    }

    public boolean number(int which, int n) {
        if (!within(which, 0, NUMBERS - 1) || !within(n, LEAST_NUMBER[which], MOST_NUMBER[which])) {
            return false;
        }
        if (which == OFFICE_PART && n + numbers[VILLAGE_PART] > 100) {
            return false;
        }
        if (which == VILLAGE_PART && n + numbers[OFFICE_PART] > 100) {
            return false;
        }
        numbers[which] = n;
        return true;
    }

    public int feed(int a, int b, int c, int d, int e) {
        if (tapeSize > MOST_TAPE - 20) {
            return NONE;
        }
        feedBytes(a);
        feedBytes(b);
        feedBytes(c);
        feedBytes(d);
        feedBytes(e);
        return tapeSize;
    }

    public int rules(int n) {
        if (n < 0 || n > MOST_RULE_BYTES || n > tapeSize) {
            return NONE;
        }
        int fault = spareRules.parse(tape, n);
        tapeSize = 0;
        if (fault == 0) {
            Rules old = rules;
            rules = spareRules;
            spareRules = old;
        }
        return fault;
    }

    public int look(int n) {
        if (!tapeHasText(n)) {
            return NONE;
        }
        looked.search(rules, tape, n);
        return looked.size;
    }

    public int found(int i, int what) {
        if (!within(i, 0, looked.size - 1)) {
            return NONE;
        }
        switch (what) {
            case 0: return looked.rule[i];
            case 1: return looked.place[i];
            case 2: return looked.length[i];
            case 3: return looked.line[i];
            default: return NONE;
        }
    }

    public int letter(int p, int by, int a, int b, int c, int d, int n) {
        Pair pair = folk.openPairAt(p);
        if (pair == null || !within(by, 0, 1) || post.size >= MOST_LETTERS) {
            return NONE;
        }
        if (!isMark(a) || !isMark(b) || !isMark(c) || !isMark(d) || !tapeHasText(n)) {
            return NONE;
        }
        Letter letter = new Letter(pair, by, today, tape, n);
        letter.marks[0] = a;
        letter.marks[1] = b;
        letter.marks[2] = c;
        letter.marks[3] = d;
        tapeSize = 0;
        return post.add(letter);
    }

    public int translator(int low, int high, int perDay, int off) {
        int most = (1 << 18) - 1;
        if (!within(low, 0, most) || !within(high, 0, most)) {
            return NONE;
        }
        if (!within(perDay, 1, 4) || !within(off, 0, (1 << WEEK_DAYS) - 1)) {
            return NONE;
        }
        return turn.add(low | (long) high << 18, perDay, off);
    }

    public int day() {
        if (today >= LAST_DAY) {
            return NONE;
        }
        today++;
        post.unpack(today);
        post.readSome(rules, today);
        turn.translate(post, folk, today);
        post.bring(today);
        post.send(today);
        post.addLags();
        return today;
    }

    public boolean decide(int l, boolean passes) {
        Letter letter = post.letterAt(l);
        if (letter == null || letter.state != HELD) {
            return false;
        }
        if (passes) {
            post.passHeld(letter, rules, today);
        } else {
            letter.move(BACK, today);
        }
        return true;
    }

    public int lose(int i) {
        return post.isOnWay(i) ? post.empty(i, LOST, today) : NONE;
    }

    public int about(int l, int what) {
        Letter letter = post.letterAt(l);
        return letter == null ? NONE : letter.tell(what);
    }

    public int hints(int p) {
        Pair pair = folk.pairAt(p);
        return pair == null ? NONE : pair.told;
    }

    public int unlike(int l) {
        Letter letter = post.letterAt(l);
        if (letter == null) {
            return NONE;
        }
        return post.isUnlike(letter) ? 1 : 0;
    }

    public int lag(int state) {
        return within(state, 0, LAGS - 1) ? post.lagIn(state) : NONE;
    }

    public int gift(int p, int pence) {
        Pair pair = folk.openPairAt(p);
        if (pair == null || !within(pence, 1, 1000000)) {
            return NONE;
        }
        return coins.give(pair.child, folk.home[pair.child], pence, today / YEAR_DAYS);
    }

    public long coin(int what) {
        return coins.tell(what, today / YEAR_DAYS);
    }

    public int project(int village, int cost, int worth) {
        if (!folk.hasVillage(village) || !within(cost, 1, 1000000) || !within(worth, 0, 1000)) {
            return NONE;
        }
        return coins.addProject(village, cost, worth);
    }

    public int choice(int village) {
        return folk.hasVillage(village) ? coins.choose(village) : NONE;
    }

    public int build(int village) {
        return folk.hasVillage(village) ? coins.buildChosen(village) : NONE;
    }

    public boolean leaves(int c, int day) {
        if (!folk.hasChild(c) || !within(day, NONE, LAST_DAY) || folk.tellings >= MOST_TELLINGS) {
            return false;
        }
        folk.tellLeaving(c, day, today);
        return true;
    }

    public int left(int c, int known) {
        if (!folk.hasChild(c) || !within(known, 0, LAST_DAY)) {
            return NONE;
        }
        return folk.leftAsKnown(c, known);
    }

    public int amiss(int known) {
        return within(known, 0, LAST_DAY) ? post.cameAmiss(known) : NONE;
    }

    public int silent(int p) {
        Pair pair = folk.openPairAt(p);
        if (pair == null) {
            return NONE;
        }
        int heard = pair.lastCame == NONE ? pair.from : pair.lastCame;
        return today / MONTH_DAYS - heard / MONTH_DAYS;
    }

    public boolean wish(int g, int ages, int villages) {
        if (!folk.hasGiver(g) || !within(ages, 0, 31) || !within(villages, 0, 63)) {
            return false;
        }
        wishes.tell(g, ages, villages);
        return true;
    }

    public int pairing() {
        return wishes.makePairs(folk, today);
    }

    public boolean trial(int all, int drawn) {
        boolean isOfChildren = within(all, 0, (1 << folk.children) - 1);
        if (!isOfChildren || (drawn & ~all) != 0) {
            return false;
        }
        study.begin(all, drawn);
        return true;
    }

    public boolean outcome(int c, int n) {
        if (!within(n, NONE, 999) || !study.isOf(c)) {
            return false;
        }
        study.outcomes[c] = n;
        return true;
    }

    public int doubt(int what) {
        switch (what) {
            case 0: return study.ways(true);
            case 1: return study.ways(false);
            case 2: return 20 * study.ways(true) <= study.ways(false) ? 1 : 0;
            default: return NONE;
        }
    }

    public int of(int p, int what) {
        Pair pair = folk.pairAt(p);
        return pair == null ? NONE : pair.tell(what);
    }

    public int count(int what) {
        if (within(what, 20, 20 + LOST)) {
            return post.inState(what - 20);
        }
        if (within(what, 30, 30 + NUMBERS - 1)) {
            return numbers[what - 30];
        }
        switch (what) {
            case 0: return today;
            case 1: return folk.villages;
            case 2: return folk.givers;
            case 3: return folk.children;
            case 4: return folk.pairCount;
            case 5: return folk.openPairs();
            case 6: return post.size;
            case 7: return post.sacks;
            case 8: return post.sacksOnWay();
            case 9: return turn.size;
            case 10: return rules.size;
            case 11: return tapeSize;
            case 12: return coins.projects;
            case 13: return Integer.bitCount(coins.built);
            case 14: return wishes.wishing();
            case 15: return folk.tellings;
            default: return NONE;
        }
    }

    private void feedBytes(int four) {
        for (int shift = 24; shift >= 0 && tapeSize < MOST_TAPE; shift -= 8) {
            tape[tapeSize] = (char) (four >>> shift & 255);
            tapeSize++;
        }
    }

    private boolean tapeHasText(int n) {
        if (n < 1 || n > MOST_TEXT || n > tapeSize) {
            return false;
        }
        for (int i = 0; i < n; i++) {
            if (!isWordSign(tape[i]) && tape[i] != BLANK && tape[i] != LINE_END) {
                return false;
            }
        }
        return true;
    }

    private static boolean within(int n, int least, int most) {
        return n >= least && n <= most;
    }

    private static boolean isMark(int n) {
        return within(n, 0, 99);
    }

    private static boolean isSmallLetter(int sign) {
        return sign >= 'a' && sign <= 'z';
    }

    private static boolean isDigit(int sign) {
        return sign >= '0' && sign <= '9';
    }

    private static boolean isWordSign(int sign) {
        return isSmallLetter(sign) || isDigit(sign);
    }

    /**
     * RULES as a net of states. A state is left by what its kind takes (to next), or for nothing
     * (to other, if there is one). A kind is an atom's own sign, EMPTY (takes nothing), or GOAL.
     */
    private static final class Rules {
        static final int EMPTY = 0;
        static final int GOAL = 1;
        // two states a byte at most: an atom has two, a group's two brackets three, a rule's head two
        static final int MOST_STATES = 2 * MOST_RULE_BYTES + 8;

        final int[] kind = new int[MOST_STATES];
        final int[] next = new int[MOST_STATES];
        final int[] other = new int[MOST_STATES];
        int states;
        final int[] start = new int[MOST_RULES];
        final int[] doing = new int[MOST_RULES];
        final int[] hint = new int[MOST_RULES];
        int size;

        private char[] signs;
        private int length;
        private int at;
        private int fault;
        private int depth;
        private int tail;
        private int item;
        private boolean repeated;
        private final int[] groupStart = new int[MOST_OPEN + 1];
        private final int[] groupEnd = new int[MOST_OPEN + 1];
        private final int[] rowStart = new int[MOST_OPEN + 1];

        /** 0, or the first FAULT from the left; then these RULES are of no use. */
        int parse(char[] given, int n) {
            signs = given;
            length = Math.min(n, given.length);
            at = 0;
            fault = 0;
            states = 0;
            size = 0;
            boolean more = length > 0;
            for (int i = 0; more && i <= MOST_RULES; i++) {
                more = parseHead() && parsePattern();
            }
            return fault;
        }

        private int sign() {
            return at < length ? signs[at] : NONE;
        }

        private boolean refuse(int which) {
            fault = 1000 * which + at;
            return false;
        }

        private boolean parseHead() {
            int letter = sign();
            if (letter != 'c' && letter != 'h' && letter != 'r' && letter != 'n') {
                return refuse(1);
            }
            if (size >= MOST_RULES) {
                return refuse(2);
            }
            at++;
            int bit = 0;
            if (letter == 'n') {
                int which = sign() - '0';
                if (!within(which, 0, 7)) {
                    return refuse(1);
                }
                bit = 1 << which;
                at++;
            }
            if (sign() != ':') {
                return refuse(1);
            }
            at++;
            doing[size] = letter;
            hint[size] = bit;
            return true;
        }

        /** True if another RULE is to come. */
        private boolean parsePattern() {
            openPattern();
            while (at < length) {
                if (sign() == ';' && depth == 0 && item != NONE) {
                    next[tail] = groupEnd[0];
                    at++;
                    return true;
                }
                if (!takeSign(sign())) {
                    return false;
                }
                at++;
            }
            if (depth > 0 || item == NONE) {
                return refuse(1);
            }
            next[tail] = groupEnd[0];
            return false;
        }

        private void openPattern() {
            depth = 0;
            groupEnd[0] = addState(GOAL);
            openRow();
            start[size] = tail;
            size++;
        }

        private boolean takeSign(int sign) {
            if (isAtom(sign)) {
                int from = addState(sign);
                addItem(from, addState(EMPTY));
                next[from] = tail;
                return true;
            }
            if (sign == '(') {
                return openGroup();
            }
            if (item == NONE) {
                return refuse(1);
            }
            if (sign == '|') {
                addRow();
                return true;
            }
            if (sign == ')' && depth > 0) {
                closeGroup();
                return true;
            }
            if ((sign == '*' || sign == '+' || sign == '?') && !repeated) {
                repeat(sign);
                return true;
            }
            return refuse(1);
        }

        private static boolean isAtom(int sign) {
            return isWordSign(sign) || sign == '#' || sign == '@' || sign == '_' || sign == '.' || sign == '^';
        }

        private void addItem(int from, int to) {
            next[tail] = from;
            tail = to;
            item = from;
            repeated = false;
        }

        private void repeat(int sign) {
            if (sign != '+') {
                other[item] = tail;
            }
            if (sign != '?') {
                other[tail] = item;
            }
            repeated = true;
        }

        private boolean openGroup() {
            if (depth >= MOST_OPEN) {
                return refuse(3);
            }
            int from = addState(EMPTY);
            next[tail] = from;
            depth++;
            groupStart[depth] = from;
            groupEnd[depth] = addState(EMPTY);
            openRow();
            next[from] = tail;
            return true;
        }

        private void closeGroup() {
            next[tail] = groupEnd[depth];
            tail = groupEnd[depth];
            item = groupStart[depth];
            repeated = false;
            depth--;
        }

        private void openRow() {
            rowStart[depth] = addState(EMPTY);
            tail = rowStart[depth];
            item = NONE;
        }

        private void addRow() {
            next[tail] = groupEnd[depth];
            int before = rowStart[depth];
            openRow();
            other[before] = tail;
        }

        private int addState(int what) {
            if (states >= MOST_STATES) {
                return MOST_STATES - 1;
            }
            kind[states] = what;
            next[states] = NONE;
            other[states] = NONE;
            states++;
            return states - 1;
        }
    }

    /** FINDS of RULES in a text. */
    private static final class Finds {
        int size;
        final int[] rule = new int[MOST_TEXT];
        final int[] place = new int[MOST_TEXT];
        final int[] length = new int[MOST_TEXT];
        final int[] line = new int[MOST_TEXT];

        private final int[] firstRule = new int[MOST_TEXT];
        private final int[] farthest = new int[MOST_TEXT];
        private int[] reach = new int[Rules.MOST_STATES];
        private int[] reachBehind = new int[Rules.MOST_STATES];

        /** Places from the last to the first: how far a state gets hangs on those behind its place. */
        void search(Rules rules, char[] text, int most) {
            int n = Math.min(most, Math.min(text.length, MOST_TEXT));
            for (int at = n; at >= 0; at--) {
                int[] old = reachBehind;
                reachBehind = reach;
                reach = old;
                reachBySigns(rules, text, n, at);
                reachByNothing(rules, isBorder(text, n, at));
                if (at < n) {
                    noteFirstRule(rules, at);
                }
            }
            gather(text, n);
        }

        /** How far each state gets from a place by taking the sign there (NONE: to no goal). */
        private void reachBySigns(Rules rules, char[] text, int n, int at) {
            for (int s = 0; s < rules.states; s++) {
                int kind = rules.kind[s];
                int far = NONE;
                if (kind == Rules.GOAL) {
                    far = at;
                } else if (at < n && rules.next[s] >= 0 && takes(kind, text[at])) {
                    far = reachBehind[rules.next[s]];
                }
                reach[s] = far;
            }
        }

        private void reachByNothing(Rules rules, boolean border) {
            boolean grew = true;
            for (int round = 0; grew && round <= rules.states; round++) {
                grew = false;
                for (int s = rules.states - 1; s >= 0; s--) {
                    int far = reach[s];
                    boolean free = rules.kind[s] == Rules.EMPTY || rules.kind[s] == '^' && border;
                    if (free && rules.next[s] >= 0) {
                        far = Math.max(far, reach[rules.next[s]]);
                    }
                    if (rules.other[s] >= 0) {
                        far = Math.max(far, reach[rules.other[s]]);
                    }
                    grew = grew || far > reach[s];
                    reach[s] = far;
                }
            }
        }

        private void noteFirstRule(Rules rules, int at) {
            firstRule[at] = NONE;
            for (int r = 0; r < rules.size; r++) {
                int far = reach[rules.start[r]];
                if (far > at) {
                    firstRule[at] = r;
                    farthest[at] = far;
                    return;
                }
            }
        }

        private void gather(char[] text, int n) {
            size = 0;
            int lines = 0;
            int ends = 0;
            for (int at = 0; at < n; at++) {
                if (at >= ends && firstRule[at] != NONE) {
                    ends = farthest[at];
                    rule[size] = firstRule[at];
                    place[size] = at;
                    length[size] = ends - at;
                    line[size] = lines;
                    size++;
                }
                if (text[at] == LINE_END) {
                    lines++;
                }
            }
        }

        private static boolean takes(int kind, int sign) {
            switch (kind) {
                case Rules.EMPTY: return false;
                case '^': return false;
                case '.': return true;
                case '#': return isDigit(sign);
                case '@': return isSmallLetter(sign);
                case '_': return sign == BLANK || sign == LINE_END;
                default: return kind == sign;
            }
        }

        private static boolean isBorder(char[] text, int n, int at) {
            boolean before = at > 0 && isWordSign(text[at - 1]);
            boolean behind = at < n && isWordSign(text[at]);
            return before != behind;
        }

        boolean hasAny(Rules rules, int doing) {
            for (int i = 0; i < size; i++) {
                if (rules.doing[rule[i]] == doing) {
                    return true;
                }
            }
            return false;
        }

        int hintBits(Rules rules) {
            int bits = 0;
            for (int i = 0; i < size; i++) {
                bits |= rules.hint[rule[i]];
            }
            return bits;
        }
    }

    private static final class Letter {
        final Pair pair;
        final int by;
        final int written;
        final char[] text;
        final int[] marks = new int[MARKS];
        final int[] lags = new int[LAGS];
        int length;
        int cuts;
        int state;
        int since;
        int sack;
        int translator;

        Letter(Pair pair, int by, int today, char[] tape, int n) {
            this.pair = pair;
            this.by = by;
            length = Math.max(0, Math.min(n, tape.length));
            text = new char[length];
            System.arraycopy(tape, 0, text, 0, length);
            written = today;
            state = WAITING;
            since = today;
            sack = NONE;
            translator = NONE;
        }

        void move(int to, int today) {
            state = to;
            since = today;
        }

        /** An x stands where each FIND of a RULE that cuts stood. */
        void cut(Rules rules, Finds finds) {
            int kept = 0;
            int from = 0;
            for (int i = 0; i < finds.size; i++) {
                if (rules.doing[finds.rule[i]] != 'c') {
                    continue;
                }
                kept = keep(kept, from, finds.place[i]);
                text[kept] = 'x';
                kept++;
                from = finds.place[i] + finds.length[i];
                cuts++;
            }
            length = keep(kept, from, length);
        }

        private int keep(int to, int from, int ends) {
            int kept = to;
            for (int i = from; i < ends; i++) {
                text[kept] = text[i];
                kept++;
            }
            return kept;
        }

        int tell(int what) {
            if (within(what, 10, 10 + LAGS - 1)) {
                return lags[what - 10];
            }
            if (what >= 20 && what - 20 < length) {
                return text[what - 20];
            }
            switch (what) {
                case 0: return state;
                case 1: return pair.number;
                case 2: return by;
                case 3: return written;
                case 4: return since;
                case 5: return sack;
                case 6: return translator;
                case 7: return length;
                case 8: return cuts;
                default: return NONE;
            }
        }
    }

    private static final class Pair {
        final int number;
        final int giver;
        final int child;
        final int from;
        int ended;
        int translator;
        int letters;
        int told;
        int lastCame;

        Pair(int number, int giver, int child, int from) {
            this.number = number;
            this.giver = giver;
            this.child = child;
            this.from = from;
            ended = NONE;
            translator = NONE;
            lastCame = NONE;
        }

        boolean isOpen() {
            return ended == NONE;
        }

        int tell(int what) {
            switch (what) {
                case 0: return giver;
                case 1: return child;
                case 2: return from;
                case 3: return ended;
                case 4: return translator;
                case 5: return letters;
                default: return NONE;
            }
        }
    }

    /** VILLAGES, GIVERS, CHILDREN, PAIRS, and what was told of leavings. */
    private static final class Folk {
        int villages;
        final int[] ways = new int[MOST_VILLAGES];
        final int[] floods = new int[MOST_VILLAGES];
        int givers;
        final int[] giverTongue = new int[MOST_FOLK];
        int children;
        final int[] home = new int[MOST_FOLK];
        final int[] childTongue = new int[MOST_FOLK];
        final int[] age = new int[MOST_FOLK];
        final int[] sibling = new int[MOST_FOLK];
        int pairCount;
        final Pair[] pairs = new Pair[MOST_PAIRS];
        int tellings;
        final int[] toldOf = new int[MOST_TELLINGS];
        final int[] toldOn = new int[MOST_TELLINGS];
        final int[] toldDay = new int[MOST_TELLINGS];

        boolean hasVillage(int v) {
            return within(v, 0, villages - 1);
        }

        boolean hasGiver(int g) {
            return within(g, 0, givers - 1);
        }

        boolean hasChild(int c) {
            return within(c, 0, children - 1);
        }

        int addVillage(int way, int flood) {
            if (villages >= MOST_VILLAGES) {
                return NONE;
            }
            ways[villages] = way;
            floods[villages] = flood;
            villages++;
            return villages - 1;
        }

        int addGiver(int tongue) {
            if (givers >= MOST_FOLK) {
                return NONE;
            }
            giverTongue[givers] = tongue;
            givers++;
            return givers - 1;
        }

        int addChild(int village, int tongue, int years, int otherChild) {
            if (children >= MOST_FOLK) {
                return NONE;
            }
            home[children] = village;
            childTongue[children] = tongue;
            age[children] = years;
            sibling[children] = otherChild;
            children++;
            return children - 1;
        }

        int addPair(int g, int c, int today) {
            if (pairCount >= MOST_PAIRS) {
                return NONE;
            }
            pairs[pairCount] = new Pair(pairCount, g, c, today);
            pairCount++;
            return pairCount - 1;
        }

        Pair pairAt(int p) {
            return within(p, 0, pairCount - 1) ? pairs[p] : null;
        }

        Pair openPairAt(int p) {
            Pair pair = pairAt(p);
            return pair != null && pair.isOpen() ? pair : null;
        }

        Pair openPairOf(int c) {
            for (int i = 0; i < pairCount; i++) {
                if (pairs[i].child == c && pairs[i].isOpen()) {
                    return pairs[i];
                }
            }
            return null;
        }

        int openPairs() {
            int open = 0;
            for (int i = 0; i < pairCount; i++) {
                open += pairs[i].isOpen() ? 1 : 0;
            }
            return open;
        }

        /** Whether a GIVER may be in one PAIR more. */
        boolean hasRoom(int g) {
            int open = 0;
            for (int i = 0; i < pairCount; i++) {
                open += pairs[i].giver == g && pairs[i].isOpen() ? 1 : 0;
            }
            return open < 2;
        }

        /** Whether there is such a CHILD, in no PAIR, and no leaving of it is KNOWN. */
        boolean isFree(int c, int today) {
            return hasChild(c) && openPairOf(c) == null && leftAsKnown(c, today) == NONE;
        }

        boolean isPaired(int g, int c) {
            Pair pair = openPairOf(c);
            return pair != null && pair.giver == g;
        }

        /** Whether the SIBLING of a CHILD, or one whose SIBLING it is, has that GIVER. */
        boolean hasSiblingOf(int g, int c) {
            if (hasChild(sibling[c]) && isPaired(g, sibling[c])) {
                return true;
            }
            for (int i = 0; i < children; i++) {
                if (sibling[i] == c && isPaired(g, i)) {
                    return true;
                }
            }
            return false;
        }

        void tellLeaving(int c, int day, int today) {
            if (tellings >= MOST_TELLINGS) {
                return;
            }
            toldOf[tellings] = c;
            toldOn[tellings] = today;
            toldDay[tellings] = day;
            tellings++;
            Pair pair = openPairOf(c);
            if (day != NONE && pair != null) {
                pair.ended = today;
            }
        }

        int leftAsKnown(int c, int known) {
            for (int i = tellings - 1; i >= 0; i--) {
                if (toldOf[i] == c && toldOn[i] <= known) {
                    return toldDay[i];
                }
            }
            return NONE;
        }

        boolean isOneTongue(Pair pair) {
            return giverTongue[pair.giver] == childTongue[pair.child];
        }

        /** The bit of the two TONGUES, from who writes to who reads. */
        int tonguesBit(Letter letter) {
            int ofGiver = giverTongue[letter.pair.giver];
            int ofChild = childTongue[letter.pair.child];
            return letter.by == 0 ? TONGUES * ofGiver + ofChild : TONGUES * ofChild + ofGiver;
        }

        boolean isFlooded(int v, int today) {
            return (floods[v] >> today / MONTH_DAYS % YEAR_MONTHS & 1) != 0;
        }
    }

    /** LETTERS, SACKS and HANDS. */
    private static final class Post {
        final Letter[] letters = new Letter[MOST_LETTERS];
        int size;
        int sacks;
        // a SACK holds one LETTER or more, so there are no more SACKS than LETTERS
        private final int[] sackWent = new int[MOST_LETTERS];
        private final int[] sackDays = new int[MOST_LETTERS];
        private final boolean[] sackOnWay = new boolean[MOST_LETTERS];
        // by GIVERS, then by CHILDREN
        private final int[] handLetters = new int[2 * MOST_FOLK];
        private final int[] handMarks = new int[2 * MOST_FOLK * MARKS];
        private final Finds finds = new Finds();
        private final Folk folk;
        private final int[] numbers;

        Post(Folk folk, int[] numbers) {
            this.folk = folk;
            this.numbers = numbers;
        }

        int add(Letter letter) {
            if (size >= MOST_LETTERS) {
                return NONE;
            }
            letters[size] = letter;
            size++;
            letter.pair.letters++;
            return size - 1;
        }

        Letter letterAt(int l) {
            return within(l, 0, size - 1) ? letters[l] : null;
        }

        int inState(int state) {
            int many = 0;
            for (int i = 0; i < size; i++) {
                many += letters[i].state == state ? 1 : 0;
            }
            return many;
        }

        int lagIn(int state) {
            int days = 0;
            for (int i = 0; i < size; i++) {
                days += letters[i].lags[state];
            }
            return days;
        }

        /**
         * The first LETTER in a STATE by the DAY on which it came there, then by numbers, of those
         * behind a given one (null: of all).
         */
        Letter firstIn(int state, Letter before) {
            Letter first = null;
            boolean behind = before == null;
            for (int i = 0; i < size; i++) {
                Letter letter = letters[i];
                boolean counts = letter.state == state
                        && (before == null || letter.since > before.since || behind && letter.since == before.since);
                if (counts && (first == null || letter.since < first.since)) {
                    first = letter;
                }
                behind = behind || letter == before;
            }
            return first;
        }

        boolean isOnWay(int sack) {
            return within(sack, 0, sacks - 1) && sackOnWay[sack];
        }

        int sacksOnWay() {
            int many = 0;
            for (int i = 0; i < sacks; i++) {
                many += sackOnWay[i] ? 1 : 0;
            }
            return many;
        }

        /** All LETTERS of a SACK come into a STATE, and it is on its way no more: how many. */
        int empty(int sack, int state, int today) {
            if (!isOnWay(sack)) {
                return 0;
            }
            int many = 0;
            for (int i = 0; i < size; i++) {
                if (letters[i].state == IN_SACK && letters[i].sack == sack) {
                    letters[i].move(state, today);
                    many++;
                }
            }
            sackOnWay[sack] = false;
            return many;
        }

        void unpack(int today) {
            for (int i = 0; i < sacks; i++) {
                if (sackOnWay[i] && today - sackWent[i] >= sackDays[i]) {
                    empty(i, TO_READ, today);
                }
            }
        }

        void readSome(Rules rules, int today) {
            for (int i = 0; i < numbers[READ_A_DAY]; i++) {
                Letter letter = firstIn(TO_READ, null);
                if (letter == null) {
                    return;
                }
                readOne(letter, rules, today);
            }
        }

        private void readOne(Letter letter, Rules rules, int today) {
            if (!letter.pair.isOpen()) {
                letter.move(BACK, today);
                return;
            }
            finds.search(rules, letter.text, letter.length);
            if (finds.hasAny(rules, 'r')) {
                letter.move(BACK, today);
            } else if (isToHold(letter, rules)) {
                letter.move(HELD, today);
            } else {
                pass(letter, rules, today);
            }
        }

        private boolean isToHold(Letter letter, Rules rules) {
            int kinds = Integer.bitCount(letter.pair.told | finds.hintBits(rules));
            return finds.hasAny(rules, 'h') || isUnlike(letter) || kinds >= numbers[MOST_HINTS];
        }

        void passHeld(Letter letter, Rules rules, int today) {
            finds.search(rules, letter.text, letter.length);
            pass(letter, rules, today);
        }

        private void pass(Letter letter, Rules rules, int today) {
            letter.pair.told |= finds.hintBits(rules);
            countMarks(letter);
            letter.cut(rules, finds);
            letter.move(folk.isOneTongue(letter.pair) ? ON_WAY : TO_TRANSLATE, today);
        }

        private static int handOf(Letter letter) {
            return letter.by == 0 ? letter.pair.giver : MOST_FOLK + letter.pair.child;
        }

        private void countMarks(Letter letter) {
            int hand = handOf(letter);
            handLetters[hand]++;
            for (int i = 0; i < MARKS; i++) {
                handMarks[hand * MARKS + i] += letter.marks[i];
            }
        }

        boolean isUnlike(Letter letter) {
            int hand = handOf(letter);
            int n = handLetters[hand];
            int apart = 0;
            for (int i = 0; i < MARKS; i++) {
                apart += Math.abs(n * letter.marks[i] - handMarks[hand * MARKS + i]);
            }
            return n >= 3 && apart > n * numbers[MOST_UNLIKE];
        }

        void bring(int today) {
            for (int i = 0; i < size; i++) {
                Letter letter = letters[i];
                int village = folk.home[letter.pair.child];
                if (letter.state != ON_WAY || today - letter.since < folk.ways[village] || folk.isFlooded(village, today)) {
                    continue;
                }
                letter.move(letter.pair.isOpen() ? COME : BACK, today);
                if (letter.state == COME && letter.by == 0) {
                    letter.pair.lastCame = today;
                }
            }
        }

        void send(int today) {
            boolean sacksGo = (numbers[SACK_WEEKDAYS] >> today % WEEK_DAYS & 1) != 0;
            if (!sacksGo || inState(WAITING) == 0 || sacks >= MOST_LETTERS) {
                return;
            }
            for (int i = 0; i < size; i++) {
                if (letters[i].state == WAITING) {
                    letters[i].move(IN_SACK, today);
                    letters[i].sack = sacks;
                }
            }
            sackWent[sacks] = today;
            sackDays[sacks] = numbers[SACK_DAYS];
            sackOnWay[sacks] = true;
            sacks++;
        }

        void addLags() {
            for (int i = 0; i < size; i++) {
                if (letters[i].state < LAGS) {
                    letters[i].lags[letters[i].state]++;
                }
            }
        }

        int cameAmiss(int known) {
            int many = 0;
            for (int i = 0; i < size; i++) {
                int left = folk.leftAsKnown(letters[i].pair.child, known);
                if (letters[i].state == COME && left != NONE && letters[i].since >= left) {
                    many++;
                }
            }
            return many;
        }
    }

    /** TRANSLATORS, and THE TURN. */
    private static final class Turn {
        int size;
        private final long[] knows = new long[WIDTH];
        private final int[] perDay = new int[WIDTH];
        private final int[] off = new int[WIDTH];
        private final Letter[] queue = new Letter[WIDTH];
        private final Allot allot = new Allot();

        int add(long twos, int most, int weekdays) {
            if (size >= WIDTH) {
                return NONE;
            }
            knows[size] = twos;
            perDay[size] = most;
            off[size] = weekdays;
            size++;
            return size - 1;
        }

        void translate(Post post, Folk folk, int today) {
            int queued = lineUp(post);
            allot.clear(queued);
            for (int t = 0; t < size; t++) {
                boolean works = (off[t] >> today % WEEK_DAYS & 1) == 0;
                if (works) {
                    allot.room[t] = perDay[t];
                    allowKnown(t, queued, folk);
                }
            }
            allot.solve();
            for (int i = 0; i < queued; i++) {
                if (allot.best[i] != WIDTH) {
                    queue[i].translator = allot.best[i];
                    queue[i].pair.translator = allot.best[i];
                    queue[i].move(ON_WAY, today);
                }
            }
        }

        private void allowKnown(int t, int queued, Folk folk) {
            for (int i = 0; i < queued; i++) {
                if ((knows[t] >> folk.tonguesBit(queue[i]) & 1) != 0) {
                    allot.allow(i, t, queue[i].pair.translator == t ? 1 : 0);
                }
            }
        }

        private int lineUp(Post post) {
            int queued = 0;
            Letter letter = post.firstIn(TO_TRANSLATE, null);
            while (letter != null && queued < WIDTH) {
                queue[queued] = letter;
                queued++;
                letter = post.firstIn(TO_TRANSLATE, letter);
            }
            return queued;
        }
    }

    /**
     * Up to six rows, each given one of six columns or none: of all ways that with most given, of
     * like ones of most points, of like ones the least by rows.
     */
    private static final class Allot {
        final int[] room = new int[WIDTH];
        final int[] best = new int[WIDTH];
        private int rows;
        private final int[] points = new int[WIDTH * WIDTH];
        private final int[] way = new int[WIDTH];
        private int mostPoints;
        private int bestGiven;
        private int bestPoints;

        void clear(int size) {
            rows = Math.max(0, Math.min(size, WIDTH));
            mostPoints = 0;
            for (int i = 0; i < WIDTH; i++) {
                room[i] = 0;
            }
            for (int i = 0; i < WIDTH * WIDTH; i++) {
                points[i] = NONE;
            }
        }

        void allow(int row, int column, int worth) {
            points[WIDTH * row + column] = worth;
            mostPoints = Math.max(mostPoints, worth);
        }

        void solve() {
            bestGiven = NONE;
            bestPoints = NONE;
            tryRows(this, 0, 0, 0);
        }

        /** Ways come from the least row on, so that only a better one takes a place. */
        private static void tryRows(Allot a, int row, int given, int sum) {
            int rest = a.rows - row;
            int mostGiven = given + rest;
            if (mostGiven < a.bestGiven || mostGiven == a.bestGiven && sum + rest * a.mostPoints <= a.bestPoints) {
                return;
            }
            if (rest <= 0) {
                a.keepWay(given, sum);
                return;
            }
            for (int c = 0; c < WIDTH; c++) {
                int worth = a.points[WIDTH * row + c];
                if (worth != NONE && a.room[c] > 0) {
                    a.room[c]--;
                    a.way[row] = c;
                    tryRows(a, row + 1, given + 1, sum + worth);
                    a.room[c]++;
                }
            }
            a.way[row] = WIDTH;
            tryRows(a, row + 1, given, sum);
        }

        private void keepWay(int given, int sum) {
            bestGiven = given;
            bestPoints = sum;
            System.arraycopy(way, 0, best, 0, rows);
        }
    }

    /** WISHES, and THE PAIRING. */
    private static final class Wishes {
        private final boolean[] wishes = new boolean[MOST_FOLK];
        private final int[] ages = new int[MOST_FOLK];
        private final int[] villages = new int[MOST_FOLK];
        private final int[] givers = new int[WIDTH];
        private final int[] children = new int[WIDTH];
        private final Allot allot = new Allot();

        void tell(int g, int wishedAges, int wishedVillages) {
            wishes[g] = true;
            ages[g] = wishedAges;
            villages[g] = wishedVillages;
        }

        int wishing() {
            int many = 0;
            for (int g = 0; g < MOST_FOLK; g++) {
                many += wishes[g] ? 1 : 0;
            }
            return many;
        }

        int makePairs(Folk folk, int today) {
            int rows = pickGivers(folk);
            int columns = pickChildren(folk, today);
            allot.clear(rows);
            for (int c = 0; c < columns; c++) {
                allot.room[c] = 1;
                for (int g = 0; g < rows; g++) {
                    allot.allow(g, c, pointsOf(folk, givers[g], children[c]));
                }
            }
            allot.solve();
            int made = 0;
            for (int g = 0; g < rows; g++) {
                int column = allot.best[g];
                if (column < columns && folk.addPair(givers[g], children[column], today) != NONE) {
                    wishes[givers[g]] = false;
                    made++;
                }
            }
            return made;
        }

        private int pickGivers(Folk folk) {
            int many = 0;
            for (int g = 0; g < folk.givers && many < WIDTH; g++) {
                if (wishes[g] && folk.hasRoom(g)) {
                    givers[many] = g;
                    many++;
                }
            }
            return many;
        }

        private int pickChildren(Folk folk, int today) {
            int many = 0;
            for (int c = 0; c < folk.children && many < WIDTH; c++) {
                if (folk.isFree(c, today)) {
                    children[many] = c;
                    many++;
                }
            }
            return many;
        }

        private int pointsOf(Folk folk, int g, int c) {
            int points = 0;
            points += (ages[g] >> folk.age[c] & 1) != 0 ? 3 : 0;
            points += (villages[g] >> folk.home[c] & 1) != 0 ? 1 : 0;
            points += folk.giverTongue[g] == folk.childTongue[c] ? 2 : 0;
            points += folk.hasSiblingOf(g, c) ? 4 : 0;
            return points;
        }
    }

    /** GIFTS, pools and PROJECTS. */
    private static final class Coins {
        private long office;
        private long given;
        private long spent;
        private final long[] pools = new long[MOST_VILLAGES];
        private final long[] had = new long[MOST_FOLK];
        private final int[] hadInYear = new int[MOST_FOLK];
        private final int[] lastYear = new int[MOST_FOLK];
        int projects;
        int built;
        private final int[] places = new int[MOST_PROJECTS];
        private final int[] costs = new int[MOST_PROJECTS];
        private final int[] worths = new int[MOST_PROJECTS];
        private final int[] numbers;

        Coins(int[] numbers) {
            this.numbers = numbers;
        }

        /** What the CHILD has of it. */
        int give(int child, int village, int pence, int year) {
            int toOffice = pence * numbers[OFFICE_PART] / 100;
            int toVillage = pence * numbers[VILLAGE_PART] / 100;
            int rest = pence - toOffice - toVillage;
            int before = inYear(child, year);
            int toChild = Math.min(rest, Math.max(0, numbers[CHILD_YEAR] - before));
            given += pence;
            office += toOffice;
            pools[village] += toVillage + rest - toChild;
            had[child] += toChild;
            hadInYear[child] = before + toChild;
            lastYear[child] = year;
            return toChild;
        }

        private int inYear(int child, int year) {
            return lastYear[child] == year ? hadInYear[child] : 0;
        }

        long tell(int what, int year) {
            if (within(what, 10, 10 + MOST_VILLAGES - 1)) {
                return pools[what - 10];
            }
            if (within(what, 20, 20 + MOST_FOLK - 1)) {
                return had[what - 20];
            }
            if (within(what, 40, 40 + MOST_FOLK - 1)) {
                return inYear(what - 40, year);
            }
            switch (what) {
                case 0: return office;
                case 1: return given;
                case 2: return spent;
                default: return 0;
            }
        }

        int addProject(int village, int cost, int worth) {
            if (projects >= MOST_PROJECTS) {
                return NONE;
            }
            places[projects] = village;
            costs[projects] = cost;
            worths[projects] = worth;
            projects++;
            return projects - 1;
        }

        int choose(int village) {
            int open = openProjects(village);
            int best = 0;
            int bestWorth = 0;
            int bestCost = 0;
            // sets come from the least on, so that only a better one takes the place
            for (int set = 1; set <= open; set++) {
                if ((set & ~open) != 0) {
                    continue;
                }
                int cost = sumOf(costs, set);
                int worth = sumOf(worths, set);
                boolean better = worth > bestWorth || worth == bestWorth && cost < bestCost;
                if (better && cost <= pools[village]) {
                    best = set;
                    bestWorth = worth;
                    bestCost = cost;
                }
            }
            return best;
        }

        private int openProjects(int village) {
            int open = 0;
            for (int i = 0; i < projects; i++) {
                if (places[i] == village) {
                    open |= 1 << i;
                }
            }
            return open & ~built;
        }

        private int sumOf(int[] parts, int set) {
            int sum = 0;
            for (int i = 0; i < projects; i++) {
                sum += (set >> i & 1) != 0 ? parts[i] : 0;
            }
            return sum;
        }

        int buildChosen(int village) {
            int chosen = choose(village);
            if (chosen == 0) {
                return NONE;
            }
            int cost = sumOf(costs, chosen);
            built |= chosen;
            pools[village] -= cost;
            spent += cost;
            return cost;
        }
    }

    /** A TRIAL and its OUTCOMES. */
    private static final class Trial {
        private int all;
        private int drawn;
        final int[] outcomes = new int[MOST_FOLK];

        void begin(int members, int chosen) {
            all = members;
            drawn = chosen;
            for (int c = 0; c < MOST_FOLK; c++) {
                outcomes[c] = NONE;
            }
        }

        boolean isOf(int c) {
            return within(c, 0, MOST_FOLK - 1) && (all >> c & 1) != 0;
        }

        /** How many ways there are to draw as many; or those alone whose sum is not below. */
        int ways(boolean asGood) {
            int told = withOutcomes();
            int size = Integer.bitCount(drawn & told);
            int least = asGood ? sumOf(drawn & told) : 0;
            int ways = 0;
            for (int set = 0; set <= told; set++) {
                if ((set & ~told) == 0 && Integer.bitCount(set) == size && sumOf(set) >= least) {
                    ways++;
                }
            }
            return ways;
        }

        private int withOutcomes() {
            int told = 0;
            for (int c = 0; c < MOST_FOLK; c++) {
                if (isOf(c) && outcomes[c] != NONE) {
                    told |= 1 << c;
                }
            }
            return told;
        }

        private int sumOf(int set) {
            int sum = 0;
            for (int c = 0; c < MOST_FOLK; c++) {
                sum += (set >> c & 1) != 0 ? outcomes[c] : 0;
            }
            return sum;
        }
    }
}
