import java.util.ArrayList;
import java.util.Arrays;
import java.util.BitSet;
import java.util.Comparator;
import java.util.HashMap;
import java.util.List;
import java.util.Map;
import java.util.function.IntPredicate;

/**
 * The document once more, in its plainest form and without care for speed: patterns by sets
 * of ends, and every "of all ways" by walking all of them. Random runs are held against it.
 */
final class Model {
    static final int NONE = -1;

    static final class Fault extends RuntimeException {
        private static final long serialVersionUID = 1L;
        final int code;

        Fault(int which, int place) {
            code = 1000 * which + place;
        }
    }

    record Rule(char doing, int hint, Part pattern) { }

    record Find(int rule, int place, int length, int line) { }

    record Village(int way, int flood) { }

    record Child(int village, int tongue, int age, int sibling) { }

    record Translator(int low, int high, int perDay, int off) {
        boolean knows(int from, int to) {
            int bit = 6 * from + to;
            return bit < 18 ? (low >> bit & 1) == 1 : (high >> bit - 18 & 1) == 1;
        }
    }

    record Telling(int child, int on, int day) { }

    record Project(int village, int cost, int worth) { }

    static final class Pair {
        int giver;
        int child;
        int from;
        int ended = NONE;
        int translator = NONE;
        int hints;
    }

    static final class Letter {
        int number;
        int pair;
        int by;
        int written;
        int since;
        int state;
        int sack = NONE;
        int translator = NONE;
        int cuts;
        boolean passed;
        String text;
        int[] marks;
        int[] lags = new int[6];
    }

    static final class Sack {
        int went;
        int days;
        boolean onWay = true;
    }

    int today;
    int[] numbers = {7, 2, 5, 3, 60, 10, 40, 5000};
    List<Integer> tape = new ArrayList<>();
    List<Rule> ruleList = new ArrayList<>();
    List<Find> looked = new ArrayList<>();
    List<Village> villages = new ArrayList<>();
    List<Integer> givers = new ArrayList<>();
    List<Child> children = new ArrayList<>();
    List<Pair> pairs = new ArrayList<>();
    List<Letter> letters = new ArrayList<>();
    List<Sack> sacks = new ArrayList<>();
    List<Translator> translators = new ArrayList<>();
    List<Telling> tellings = new ArrayList<>();
    List<Project> projects = new ArrayList<>();
    List<Boolean> built = new ArrayList<>();
    int[][] wishes = new int[16][];
    long office;
    long given;
    long spent;
    long[] pools = new long[6];
    long[] had = new long[16];
    int[][] hadInYear = new int[16][10];
    int all;
    int drawn;
    int[] outcomes = new int[16];

    // ---- RULES

    /** Where a row of signs from a place on can end, of those that a part of a PATTERN takes. */
    interface Part {
        BitSet ends(String text, int from);
    }

    static BitSet at(int place) {
        BitSet one = new BitSet();
        one.set(place);
        return one;
    }

    static Part sign(IntPredicate takes) {
        return (text, from) -> from < text.length() && takes.test(text.charAt(from)) ? at(from + 1) : new BitSet();
    }

    static boolean isWord(int c) {
        return c >= 'a' && c <= 'z' || c >= '0' && c <= '9';
    }

    static BitSet border(String text, int from) {
        int words = (from > 0 && isWord(text.charAt(from - 1)) ? 1 : 0)
                + (from < text.length() && isWord(text.charAt(from)) ? 1 : 0);
        return words == 1 ? at(from) : new BitSet();
    }

    static Part then(Part first, Part second) {
        return (text, from) -> {
            BitSet all = new BitSet();
            first.ends(text, from).stream().forEach(e -> all.or(second.ends(text, e)));
            return all;
        };
    }

    static Part either(Part one, Part other) {
        return (text, from) -> {
            BitSet all = (BitSet) one.ends(text, from).clone();
            all.or(other.ends(text, from));
            return all;
        };
    }

    static Part many(Part one) {
        return (text, from) -> {
            BitSet all = at(from);
            BitSet done = new BitSet();
            while (!done.equals(all)) {
                BitSet open = (BitSet) all.clone();
                open.andNot(done);
                done = (BitSet) all.clone();
                open.stream().forEach(e -> all.or(one.ends(text, e)));
            }
            return all;
        };
    }

    /** The same Part, which looks up what it has answered of the latest text. */
    static Part kept(Part part) {
        Map<Integer, BitSet> known = new HashMap<>();
        String[] of = new String[1];
        return (text, from) -> {
            if (!text.equals(of[0])) {
                known.clear();
                of[0] = text;
            }
            BitSet ends = known.get(from);
            if (ends == null) {
                ends = part.ends(text, from);
                known.put(from, ends);
            }
            return ends;
        };
    }

    /** Reads RULES from the left and throws at the first FAULT. */
    static final class Reader {
        final String signs;
        int at;

        Reader(String signs) {
            this.signs = signs;
        }

        int sign() {
            return at < signs.length() ? signs.charAt(at) : NONE;
        }

        boolean isOneOf(String some) {
            return sign() != NONE && some.indexOf(sign()) >= 0;
        }

        List<Rule> all() {
            List<Rule> rules = new ArrayList<>();
            do {
                rules.add(one(rules.size()));
            } while (at++ < signs.length());
            return rules;
        }

        Rule one(int before) {
            if (!isOneOf("chrn")) {
                throw new Fault(1, at);
            }
            if (before == 12) {
                throw new Fault(2, at);
            }
            char doing = signs.charAt(at++);
            int hint = 0;
            if (doing == 'n') {
                if (!isOneOf("01234567")) {
                    throw new Fault(1, at);
                }
                hint = 1 << sign() - '0';
                at++;
            }
            if (!isOneOf(":")) {
                throw new Fault(1, at);
            }
            at++;
            Part pattern = rows(0);
            if (at < signs.length() && !isOneOf(";")) {
                throw new Fault(1, at);
            }
            return new Rule(doing, hint, pattern);
        }

        Part rows(int open) {
            Part all = row(open);
            while (isOneOf("|")) {
                at++;
                all = either(all, row(open));
            }
            return kept(all);
        }

        Part row(int open) {
            Part all = item(open);
            while (sign() != NONE && !isOneOf("|);")) {
                all = kept(then(all, item(open)));
            }
            return all;
        }

        Part item(int open) {
            Part atom = atom(open);
            if (isOneOf("*+?")) {
                char behind = signs.charAt(at++);
                Part none = (text, from) -> at(from);
                return kept(behind == '*' ? many(atom) : behind == '+' ? then(atom, many(atom)) : either(atom, none));
            }
            return atom;
        }

        Part atom(int open) {
            int sign = sign();
            if (sign == '(') {
                if (open == 6) {
                    throw new Fault(3, at);
                }
                at++;
                Part inner = rows(open + 1);
                if (!isOneOf(")")) {
                    throw new Fault(1, at);
                }
                at++;
                return inner;
            }
            Part part = isWord(sign) ? Model.sign(c -> c == sign)
                    : sign == '#' ? Model.sign(c -> c >= '0' && c <= '9')
                    : sign == '@' ? Model.sign(c -> c >= 'a' && c <= 'z')
                    : sign == '_' ? Model.sign(c -> c == ' ' || c == 10)
                    : sign == '.' ? Model.sign(c -> true)
                    : sign == '^' ? Model::border
                    : null;
            if (part == null) {
                throw new Fault(1, at);
            }
            at++;
            return part;
        }
    }

    static List<Find> search(List<Rule> rules, String text) {
        List<Find> finds = new ArrayList<>();
        int at = 0;
        while (at < text.length()) {
            Find find = null;
            for (int r = 0; r < rules.size() && find == null; r++) {
                int end = rules.get(r).pattern().ends(text, at).length() - 1;
                if (end > at) {
                    int line = (int) text.substring(0, at).chars().filter(c -> c == 10).count();
                    find = new Find(r, at, end - at, line);
                }
            }
            if (find != null) {
                finds.add(find);
            }
            at += find == null ? 1 : find.length();
        }
        return finds;
    }

    // ---- the face

    int village(int way, int flood) {
        if (way < 1 || way > 60 || flood < 0 || flood > 4095 || villages.size() == 6) {
            return NONE;
        }
        villages.add(new Village(way, flood));
        return villages.size() - 1;
    }

    int giver(int tongue) {
        if (tongue < 0 || tongue > 5 || givers.size() == 16) {
            return NONE;
        }
        givers.add(tongue);
        return givers.size() - 1;
    }

    int child(int village, int tongue, int age, int sibling) {
        if (village < 0 || village >= villages.size() || tongue < 0 || tongue > 5 || age < 0 || age > 4
                || sibling < -1 || sibling >= children.size() || children.size() == 16) {
            return NONE;
        }
        children.add(new Child(village, tongue, age, sibling));
        return children.size() - 1;
    }

    List<Pair> open(int giver, int child) {
        return pairs.stream().filter(p -> p.ended == NONE && (giver == NONE || p.giver == giver)
                && (child == NONE || p.child == child)).toList();
    }

    boolean isOpen(int p) {
        return p >= 0 && p < pairs.size() && pairs.get(p).ended == NONE;
    }

    int pair(int giver, int child) {
        if (giver < 0 || giver >= givers.size() || child < 0 || child >= children.size()
                || !open(NONE, child).isEmpty() || open(giver, NONE).size() >= 2
                || left(child, today) != NONE || pairs.size() == 40) {
            return NONE;
        }
        Pair pair = new Pair();
        pair.giver = giver;
        pair.child = child;
        pair.from = today;
        pairs.add(pair);
        return pairs.size() - 1;
    }

    boolean end(int p) {
        if (!isOpen(p)) {
            return false;
        }
        pairs.get(p).ended = today;
        return true;
    }

    boolean number(int which, int n) {
        int[] least = {1, 1, 1, 1, 0, 0, 0, 0};
        int[] most = {60, 127, 20, 8, 400, 100, 100, 1000000};
        if (which < 0 || which > 7 || n < least[which] || n > most[which]) {
            return false;
        }
        int[] tried = numbers.clone();
        tried[which] = n;
        if (tried[5] + tried[6] > 100) {
            return false;
        }
        numbers = tried;
        return true;
    }

    int feed(int... five) {
        if (tape.size() + 20 > 240) {
            return NONE;
        }
        for (int n : five) {
            tape.addAll(List.of(n >>> 24, n >>> 16 & 255, n >>> 8 & 255, n & 255));
        }
        return tape.size();
    }

    String tapeText(int n) {
        StringBuilder text = new StringBuilder();
        for (int b : tape.subList(0, n)) {
            text.append((char) b);
        }
        return text.toString();
    }

    boolean tapeHasText(int n) {
        return n >= 1 && n <= 160 && n <= tape.size() && tapeText(n).matches("[a-z0-9 \n]*");
    }

    int rules(int n) {
        if (n < 0 || n > 200 || n > tape.size()) {
            return NONE;
        }
        String signs = tapeText(n);
        tape.clear();
        try {
            ruleList = n == 0 ? new ArrayList<>() : new Reader(signs).all();
            return 0;
        } catch (Fault fault) {
            return fault.code;
        }
    }

    int look(int n) {
        if (!tapeHasText(n)) {
            return NONE;
        }
        looked = search(ruleList, tapeText(n));
        return looked.size();
    }

    int found(int i, int what) {
        if (i < 0 || i >= looked.size() || what < 0 || what > 3) {
            return NONE;
        }
        Find f = looked.get(i);
        return List.of(f.rule(), f.place(), f.length(), f.line()).get(what);
    }

    int letter(int p, int by, int a, int b, int c, int d, int n) {
        boolean marks = Arrays.stream(new int[] {a, b, c, d}).allMatch(m -> m >= 0 && m <= 99);
        if (!isOpen(p) || by < 0 || by > 1 || !marks || !tapeHasText(n) || letters.size() == 200) {
            return NONE;
        }
        Letter letter = new Letter();
        letter.number = letters.size();
        letter.pair = p;
        letter.by = by;
        letter.written = today;
        letter.since = today;
        letter.text = tapeText(n);
        letter.marks = new int[] {a, b, c, d};
        letters.add(letter);
        tape.clear();
        return letter.number;
    }

    int translator(int low, int high, int perDay, int off) {
        if (low < 0 || low >= 1 << 18 || high < 0 || high >= 1 << 18 || perDay < 1 || perDay > 4
                || off < 0 || off > 127 || translators.size() == 6) {
            return NONE;
        }
        translators.add(new Translator(low, high, perDay, off));
        return translators.size() - 1;
    }

    int day() {
        if (today == 3599) {
            return NONE;
        }
        today++;
        for (int s = 0; s < sacks.size(); s++) {
            if (sacks.get(s).onWay && today - sacks.get(s).went >= sacks.get(s).days) {
                empty(s, 2);
            }
        }
        inState(2).stream().limit(numbers[2]).forEach(this::read);
        turn();
        for (Letter l : letters) {
            Village village = villages.get(children.get(pairs.get(l.pair).child).village());
            boolean flood = (village.flood() >> today / 30 % 12 & 1) == 1;
            if (l.state == 5 && today - l.since >= village.way() && !flood) {
                move(l, pairs.get(l.pair).ended == NONE ? 6 : 7);
            }
        }
        if ((numbers[1] >> today % 7 & 1) == 1 && !inState(0).isEmpty()) {
            Sack sack = new Sack();
            sack.went = today;
            sack.days = numbers[0];
            sacks.add(sack);
            for (Letter l : inState(0)) {
                l.sack = sacks.size() - 1;
                move(l, 1);
            }
        }
        for (Letter l : letters) {
            if (l.state < 6) {
                l.lags[l.state]++;
            }
        }
        return today;
    }

    void move(Letter l, int state) {
        l.state = state;
        l.since = today;
    }

    /** Those in a STATE by the DAY on which they came there, then by numbers. */
    List<Letter> inState(int state) {
        return letters.stream().filter(l -> l.state == state)
                .sorted(Comparator.comparingInt((Letter l) -> l.since).thenComparingInt(l -> l.number)).toList();
    }

    int empty(int sack, int state) {
        List<Letter> inIt = letters.stream().filter(l -> l.state == 1 && l.sack == sack).toList();
        inIt.forEach(l -> move(l, state));
        sacks.get(sack).onWay = false;
        return inIt.size();
    }

    void read(Letter l) {
        List<Find> finds = search(ruleList, l.text);
        Pair pair = pairs.get(l.pair);
        String done = "";
        int hints = pair.hints;
        for (Find f : finds) {
            done += ruleList.get(f.rule()).doing();
            hints |= ruleList.get(f.rule()).hint();
        }
        if (pair.ended != NONE || done.indexOf('r') >= 0) {
            move(l, 7);
        } else if (done.indexOf('h') >= 0 || isUnlike(l) || Integer.bitCount(hints) >= numbers[3]) {
            move(l, 3);
        } else {
            pass(l);
        }
    }

    void pass(Letter l) {
        Pair pair = pairs.get(l.pair);
        StringBuilder cut = new StringBuilder();
        int from = 0;
        for (Find f : search(ruleList, l.text)) {
            Rule rule = ruleList.get(f.rule());
            pair.hints |= rule.hint();
            if (rule.doing() == 'c') {
                cut.append(l.text, from, f.place()).append('x');
                from = f.place() + f.length();
                l.cuts++;
            }
        }
        l.text = cut + l.text.substring(from);
        l.passed = true;
        move(l, givers.get(pair.giver) == children.get(pair.child).tongue() ? 5 : 4);
    }

    int writer(Letter l) {
        return l.by == 0 ? pairs.get(l.pair).giver : 100 + pairs.get(l.pair).child;
    }

    boolean isUnlike(Letter l) {
        List<Letter> passed = letters.stream().filter(o -> o.passed && writer(o) == writer(l)).toList();
        int n = passed.size();
        int apart = 0;
        for (int m = 0; m < 4; m++) {
            int sum = 0;
            for (Letter o : passed) {
                sum += o.marks[m];
            }
            apart += Math.abs(n * l.marks[m] - sum);
        }
        return n >= 3 && apart > n * numbers[4];
    }

    void turn() {
        List<Letter> six = inState(4).stream().limit(6).toList();
        int ways = 1;
        for (int i = 0; i < six.size(); i++) {
            ways *= 7;
        }
        int[] best = null;
        int bestScore = -1;
        for (int code = 0; code < ways; code++) {
            int[] row = new int[six.size()];
            int rest = code;
            for (int i = six.size() - 1; i >= 0; i--) {
                row[i] = rest % 7;
                rest /= 7;
            }
            int score = turnScore(six, row);
            if (score > bestScore) {
                bestScore = score;
                best = row;
            }
        }
        for (int i = 0; i < six.size(); i++) {
            if (best[i] != 6) {
                six.get(i).translator = best[i];
                pairs.get(six.get(i).pair).translator = best[i];
                move(six.get(i), 5);
            }
        }
    }

    int turnScore(List<Letter> six, int[] row) {
        int[] load = new int[6];
        int score = 0;
        for (int i = 0; i < row.length; i++) {
            if (row[i] == 6) {
                continue;
            }
            if (row[i] >= translators.size()) {
                return -1;
            }
            Translator t = translators.get(row[i]);
            Letter l = six.get(i);
            Pair p = pairs.get(l.pair);
            int ofGiver = givers.get(p.giver);
            int ofChild = children.get(p.child).tongue();
            boolean knows = l.by == 0 ? t.knows(ofGiver, ofChild) : t.knows(ofChild, ofGiver);
            load[row[i]]++;
            if (!knows || load[row[i]] > t.perDay() || (t.off() >> today % 7 & 1) == 1) {
                return -1;
            }
            score += 100 + (p.translator == row[i] ? 1 : 0);
        }
        return score;
    }

    boolean decide(int l, boolean passes) {
        if (l < 0 || l >= letters.size() || letters.get(l).state != 3) {
            return false;
        }
        if (passes) {
            pass(letters.get(l));
        } else {
            move(letters.get(l), 7);
        }
        return true;
    }

    int lose(int i) {
        return i < 0 || i >= sacks.size() || !sacks.get(i).onWay ? NONE : empty(i, 8);
    }

    int about(int l, int what) {
        if (l < 0 || l >= letters.size()) {
            return NONE;
        }
        Letter a = letters.get(l);
        int[] first = {a.state, a.pair, a.by, a.written, a.since, a.sack, a.translator, a.text.length(), a.cuts};
        if (what >= 0 && what <= 8) {
            return first[what];
        }
        if (what >= 10 && what <= 15) {
            return a.lags[what - 10];
        }
        return what >= 20 && what < 20 + a.text.length() ? a.text.charAt(what - 20) : NONE;
    }

    int hints(int p) {
        return p < 0 || p >= pairs.size() ? NONE : pairs.get(p).hints;
    }

    int unlike(int l) {
        return l < 0 || l >= letters.size() ? NONE : isUnlike(letters.get(l)) ? 1 : 0;
    }

    int lag(int state) {
        return state < 0 || state > 5 ? NONE : letters.stream().mapToInt(l -> l.lags[state]).sum();
    }

    int gift(int p, int pence) {
        if (!isOpen(p) || pence < 1 || pence > 1000000) {
            return NONE;
        }
        int c = pairs.get(p).child;
        int toOffice = pence * numbers[5] / 100;
        int toVillage = pence * numbers[6] / 100;
        int rest = pence - toOffice - toVillage;
        int toChild = 0;
        while (toChild < rest && hadInYear[c][today / 360] < numbers[7]) {
            toChild++;
            hadInYear[c][today / 360]++;
        }
        given += pence;
        office += toOffice;
        had[c] += toChild;
        pools[children.get(c).village()] += pence - toOffice - toChild;
        return toChild;
    }

    long coin(int what) {
        if (what >= 0 && what <= 2) {
            return new long[] {office, given, spent}[what];
        }
        if (what >= 10 && what <= 15) {
            return pools[what - 10];
        }
        if (what >= 20 && what <= 35) {
            return had[what - 20];
        }
        return what >= 40 && what <= 55 ? hadInYear[what - 40][today / 360] : 0;
    }

    int project(int village, int cost, int worth) {
        if (village < 0 || village >= villages.size() || cost < 1 || cost > 1000000 || worth < 0 || worth > 1000
                || projects.size() == 12) {
            return NONE;
        }
        projects.add(new Project(village, cost, worth));
        built.add(false);
        return projects.size() - 1;
    }

    int choice(int village) {
        if (village < 0 || village >= villages.size()) {
            return NONE;
        }
        long[] best = {0, 0, 0};
        for (int set = 0; set < 1 << projects.size(); set++) {
            long cost = 0;
            long worth = 0;
            boolean can = true;
            for (int i = 0; i < projects.size(); i++) {
                if ((set >> i & 1) == 1) {
                    can = can && projects.get(i).village() == village && !built.get(i);
                    cost += projects.get(i).cost();
                    worth += projects.get(i).worth();
                }
            }
            long[] row = {-worth, cost, set};
            if (can && cost <= pools[village] && Arrays.compare(row, best) < 0) {
                best = row;
            }
        }
        return (int) best[2];
    }

    int build(int village) {
        int set = choice(village);
        if (set <= 0) {
            return NONE;
        }
        int cost = 0;
        for (int i = 0; i < projects.size(); i++) {
            if ((set >> i & 1) == 1) {
                cost += projects.get(i).cost();
                built.set(i, true);
            }
        }
        pools[village] -= cost;
        spent += cost;
        return cost;
    }

    boolean leaves(int c, int day) {
        if (c < 0 || c >= children.size() || day < -1 || day > 3599 || tellings.size() == 100) {
            return false;
        }
        tellings.add(new Telling(c, today, day));
        if (day != NONE) {
            open(NONE, c).forEach(p -> p.ended = today);
        }
        return true;
    }

    int left(int c, int known) {
        int day = NONE;
        for (Telling t : tellings) {
            if (t.child() == c && t.on() <= known && known <= 3599) {
                day = t.day();
            }
        }
        return day;
    }

    int amiss(int known) {
        if (known < 0 || known > 3599) {
            return NONE;
        }
        return (int) letters.stream().filter(l -> l.state == 6).filter(l -> {
            int left = left(pairs.get(l.pair).child, known);
            return left != NONE && !(l.since < left);
        }).count();
    }

    int silent(int p) {
        if (!isOpen(p)) {
            return NONE;
        }
        int heard = letters.stream().filter(l -> l.pair == p && l.by == 0 && l.state == 6)
                .mapToInt(l -> l.since).max().orElse(pairs.get(p).from);
        return today / 30 - heard / 30;
    }

    boolean wish(int g, int ages, int villageBits) {
        if (g < 0 || g >= givers.size() || ages < 0 || ages > 31 || villageBits < 0 || villageBits > 63) {
            return false;
        }
        wishes[g] = new int[] {ages, villageBits};
        return true;
    }

    int points(int g, int c) {
        Child child = children.get(c);
        boolean sibling = open(g, NONE).stream()
                .anyMatch(p -> p.child == child.sibling() || children.get(p.child).sibling() == c);
        return ((wishes[g][0] >> child.age() & 1) == 1 ? 3 : 0) + ((wishes[g][1] >> child.village() & 1) == 1 ? 1 : 0)
                + (givers.get(g) == child.tongue() ? 2 : 0) + (sibling ? 4 : 0);
    }

    int pairing() {
        List<Integer> sixGivers = new ArrayList<>();
        for (int g = 0; g < givers.size(); g++) {
            if (wishes[g] != null && open(g, NONE).size() < 2 && sixGivers.size() < 6) {
                sixGivers.add(g);
            }
        }
        List<Integer> sixChildren = new ArrayList<>();
        for (int c = 0; c < children.size(); c++) {
            if (open(NONE, c).isEmpty() && left(c, today) == NONE && sixChildren.size() < 6) {
                sixChildren.add(c);
            }
        }
        int[][] points = new int[sixGivers.size()][sixChildren.size()];
        for (int i = 0; i < points.length; i++) {
            for (int k = 0; k < sixChildren.size(); k++) {
                points[i][k] = points(sixGivers.get(i), sixChildren.get(k));
            }
        }
        int[] best = bestRow(points);
        int made = 0;
        for (int i = 0; i < best.length; i++) {
            if (best[i] != 6 && pair(sixGivers.get(i), sixChildren.get(best[i])) != NONE) {
                wishes[sixGivers.get(i)] = null;
                made++;
            }
        }
        return made;
    }

    static int[] bestRow(int[][] points) {
        int ways = 1;
        for (int i = 0; i < points.length; i++) {
            ways *= 7;
        }
        int[] best = null;
        int bestScore = -1;
        for (int code = 0; code < ways; code++) {
            int[] row = new int[points.length];
            int rest = code;
            int taken = 0;
            int score = 0;
            for (int i = row.length - 1; i >= 0; i--) {
                row[i] = rest % 7;
                rest /= 7;
                if (row[i] < 6) {
                    boolean can = row[i] < points[i].length && (taken >> row[i] & 1) == 0;
                    score += can ? 1000 + points[i][row[i]] : -1000000;
                    taken |= 1 << row[i];
                }
            }
            if (score > bestScore) {
                bestScore = score;
                best = row;
            }
        }
        return best;
    }

    boolean trial(int members, int chosen) {
        if (members < 0 || members >= 1 << children.size() || chosen < 0 || (members | chosen) != members) {
            return false;
        }
        all = members;
        drawn = chosen;
        Arrays.fill(outcomes, NONE);
        return true;
    }

    boolean outcome(int c, int n) {
        if (c < 0 || c > 15 || (all >> c & 1) == 0 || n < -1 || n > 999) {
            return false;
        }
        outcomes[c] = n;
        return true;
    }

    int doubt(int what) {
        List<Integer> told = new ArrayList<>();
        int size = 0;
        int due = 0;
        for (int c = 0; c < 16; c++) {
            if ((all >> c & 1) == 1 && outcomes[c] != NONE) {
                told.add(outcomes[c]);
                size += drawn >> c & 1;
                due += (drawn >> c & 1) * outcomes[c];
            }
        }
        int good = 0;
        int ways = 0;
        for (int set = 0; set < 1 << told.size(); set++) {
            int sum = 0;
            for (int i = 0; i < told.size(); i++) {
                sum += (set >> i & 1) * told.get(i);
            }
            if (Integer.bitCount(set) == size) {
                ways++;
                good += sum >= due ? 1 : 0;
            }
        }
        return what == 0 ? good : what == 1 ? ways : what == 2 ? (20 * good > ways ? 0 : 1) : NONE;
    }

    int of(int p, int what) {
        if (p < 0 || p >= pairs.size() || what < 0 || what > 5) {
            return NONE;
        }
        Pair a = pairs.get(p);
        int many = (int) letters.stream().filter(l -> l.pair == p).count();
        return new int[] {a.giver, a.child, a.from, a.ended, a.translator, many}[what];
    }

    int count(int what) {
        int onWay = (int) sacks.stream().filter(s -> s.onWay).count();
        int done = (int) built.stream().filter(b -> b).count();
        int wishing = (int) Arrays.stream(wishes).filter(w -> w != null).count();
        int[] first = {today, villages.size(), givers.size(), children.size(), pairs.size(), open(NONE, NONE).size(),
            letters.size(), sacks.size(), onWay, translators.size(), ruleList.size(), tape.size(), projects.size(),
            done, wishing, tellings.size()};
        if (what >= 0 && what < first.length) {
            return first[what];
        }
        if (what >= 20 && what <= 28) {
            return inState(what - 20).size();
        }
        return what >= 30 && what <= 37 ? numbers[what - 30] : NONE;
    }
}
