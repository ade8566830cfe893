import java.util.Random;

/** Random runs (of fixed seeds) of up to 512 calls, each answer held against that of the Model. */
public final class ModelTest {
    private static final int RUNS = 600;
    private static final int CALLS = 512;
    private static int wrong;
    private static long asked;

    private final Random dice;
    private ChildLetters x = new ChildLetters();
    private Model m = new Model();
    private final int run;
    private final StringBuilder told = new StringBuilder();
    private boolean off;
    private int calls;
    // what this run does much of
    private final int bias;

    private ModelTest(int run) {
        this.run = run;
        dice = new Random(run);
        bias = run % 6;
    }

    public static void main(String[] args) {
        for (int run = 0; run < RUNS; run++) {
            new ModelTest(run).play();
        }
        System.out.println("ModelTest: " + asked + " answers, " + wrong + " not as due");
        if (wrong != 0) {
            System.exit(1);
        }
    }

    private void due(String call, long got, long want) {
        asked++;
        calls++;
        if (got != want && !off) {
            wrong++;
            off = true;
            System.out.println("run " + run + told.substring(Math.max(0, told.length() - 600)));
            System.out.println("  " + call + " answered " + got + ", by the Model " + want);
        }
        told.append("\n  ").append(call).append(" = ").append(got);
    }

    private void due(String call, boolean got, boolean want) {
        due(call, got ? 1 : 0, want ? 1 : 0);
    }

    private int upTo(int most) {
        return dice.nextInt(most + 1);
    }

    /** Mostly from 0 to most, at times just beside or wild. */
    private int near(int most) {
        int kind = upTo(40);
        if (kind == 0) {
            return -1;
        }
        if (kind == 1) {
            return most + 1;
        }
        if (kind == 2) {
            return dice.nextInt();
        }
        return upTo(Math.max(0, most));
    }

    private void play() {
        start();
        while (calls < CALLS && !off) {
            step();
        }
    }

    private void start() {
        int villages = 1 + upTo(3);
        for (int i = 0; i < villages; i++) {
            int flood = dice.nextBoolean() ? 0 : upTo(4095);
            int way = 1 + upTo(dice.nextBoolean() ? 3 : 40);
            due("village(" + way + ", " + flood + ")", x.village(way, flood), m.village(way, flood));
        }
        for (int i = 0; i < 3 + bias; i++) {
            giver(upTo(bias == 2 ? 5 : 1));
            child(upTo(villages - 1), upTo(bias == 2 ? 5 : 1), upTo(4), upTo(1) == 0 ? -1 : upTo(i));
            pair(i, i);
        }
        if (bias == 2) {
            for (int i = 0; i < 3; i++) {
                translator();
            }
        }
        if (dice.nextBoolean()) {
            number(0, 1 + upTo(3));
            number(1, 1 + upTo(126));
        }
    }

    private void giver(int tongue) {
        due("giver(" + tongue + ")", x.giver(tongue), m.giver(tongue));
    }

    private void child(int v, int t, int a, int s) {
        due("child(" + v + ", " + t + ", " + a + ", " + s + ")", x.child(v, t, a, s), m.child(v, t, a, s));
    }

    private void pair(int g, int c) {
        due("pair(" + g + ", " + c + ")", x.pair(g, c), m.pair(g, c));
    }

    private void number(int which, int n) {
        due("number(" + which + ", " + n + ")", x.number(which, n), m.number(which, n));
    }

    private void day() {
        due("day()", x.day(), m.day());
    }

    private void step() {
        int[][] weights = {
            // rules, look, letter, day, decide, money, leaving, pairing, trial, folk, numbers, ask
            {8, 12, 8, 10, 3, 2, 1, 1, 1, 1, 1, 8},
            {2, 1, 14, 24, 5, 1, 1, 1, 0, 1, 1, 10},
            {0, 0, 24, 24, 2, 0, 0, 0, 0, 1, 0, 6},
            {0, 0, 2, 4, 1, 20, 1, 1, 1, 1, 2, 8},
            {0, 0, 3, 6, 1, 1, 12, 14, 1, 6, 0, 12},
            {1, 1, 4, 8, 1, 2, 2, 2, 14, 3, 1, 8},
        };
        int sum = 0;
        for (int w : weights[bias]) {
            sum += w;
        }
        int pick = upTo(sum - 1);
        int kind = 0;
        while (pick >= weights[bias][kind]) {
            pick -= weights[bias][kind];
            kind++;
        }
        act(kind);
    }

    private void act(int kind) {
        switch (kind) {
            case 0 -> rules();
            case 1 -> look();
            case 2 -> letter();
            case 3 -> day();
            case 4 -> hold();
            case 5 -> money();
            case 6 -> leaving();
            case 7 -> pairing();
            case 8 -> trial();
            case 9 -> folk();
            case 10 -> number(near(7), dice.nextBoolean() ? near(30) : near(400));
            default -> ask();
        }
    }

    private void feed(String signs) {
        for (int i = 0; i < signs.length() && !off; i += 20) {
            int[] n = new int[5];
            for (int k = 0; k < 20; k++) {
                n[k / 4] = n[k / 4] << 8 | (i + k < signs.length() ? signs.charAt(i + k) : 0);
            }
            due("feed(" + signs + ")", x.feed(n[0], n[1], n[2], n[3], n[4]), m.feed(n));
        }
    }

    /** A small random PATTERN; at times a sign of it is spoiled by who asks for it. */
    private String pattern(int depth) {
        StringBuilder out = new StringBuilder();
        int rows = 1 + upTo(1);
        for (int r = 0; r < rows; r++) {
            out.append(r > 0 ? "|" : "");
            int items = 1 + upTo(2);
            for (int i = 0; i < items; i++) {
                int kind = upTo(9);
                if (kind < 2 && depth < 3) {
                    out.append('(').append(pattern(depth + 1)).append(')');
                } else {
                    out.append("ab1 #@_.^abc".replace(" ", "").charAt(upTo(10)));
                }
                int behind = upTo(7);
                out.append(behind < 3 ? "*+?".substring(behind, behind + 1) : "");
            }
        }
        return out.toString();
    }

    private void rules() {
        StringBuilder text = new StringBuilder();
        int many = upTo(30) == 0 ? 13 : 1 + upTo(3);
        for (int i = 0; i < many; i++) {
            int kind = upTo(9);
            String head = kind < 4 ? "c" : kind == 4 ? "h" : kind == 5 ? "r" : "n" + upTo(7);
            text.append(i > 0 ? ";" : "").append(head).append(':').append(many == 13 ? "a" : pattern(0));
        }
        if (upTo(3) == 0) {
            String odd = ";:|()*+?#@_.^acnhr079 -";
            text.setCharAt(upTo(text.length() - 1), odd.charAt(upTo(odd.length() - 1)));
        }
        if (text.length() > 200) {
            text.setLength(200);
        }
        empty();
        feed(text.toString());
        int n = upTo(30) == 0 ? near(240) : text.length();
        due("rules(" + n + ")", x.rules(n), m.rules(n));
    }

    /** The tape empty again, the RULES as they were: by a FAULT. */
    private void empty() {
        if (x.count(11) > 0) {
            String call = "rules(1)";
            due(call, x.rules(1), m.rules(1));
        }
    }

    private String text() {
        StringBuilder out = new StringBuilder();
        int n = 1 + (upTo(9) == 0 ? upTo(159) : upTo(25));
        for (int i = 0; i < n; i++) {
            out.append("aaaabbb1c \nab".charAt(upTo(12)));
        }
        if (upTo(30) == 0) {
            out.setCharAt(upTo(n - 1), 'A');
        }
        return out.toString();
    }

    private void look() {
        empty();
        String text = text();
        feed(text);
        int n = upTo(20) == 0 ? near(160) : text.length();
        due("look(" + n + ")", x.look(n), m.look(n));
        int finds = m.looked.size();
        for (int i = 0; i < Math.min(finds, 4) && !off; i++) {
            int f = near(finds);
            int what = near(3);
            due("found(" + f + ", " + what + ")", x.found(f, what), m.found(f, what));
        }
    }

    private void letter() {
        empty();
        String text = bias == 2 ? "ab" : text();
        feed(text);
        int p = near(m.pairs.size() - 1);
        int by = upTo(20) == 0 ? near(1) : upTo(1);
        int base = upTo(12) == 0 ? near(99) : 30 + upTo(20);
        int n = upTo(30) == 0 ? near(160) : text.length();
        due("letter(" + p + ", " + by + ", " + base + ", 40, 50, 60, " + n + ")", x.letter(p, by, base, 40, 50, 60, n),
                m.letter(p, by, base, 40, 50, 60, n));
    }

    private void translator() {
        int low = upTo((1 << 18) - 1) | upTo((1 << 18) - 1);
        int high = upTo((1 << 18) - 1) | upTo((1 << 18) - 1);
        int perDay = upTo(20) == 0 ? near(4) : 1 + upTo(3);
        int off = upTo(2) == 0 ? upTo(127) : near(127) & near(127);
        due("translator(" + low + ", " + high + ", " + perDay + ", " + off + ")", x.translator(low, high, perDay, off),
                m.translator(low, high, perDay, off));
    }

    private void hold() {
        int l = near(m.letters.size());
        for (Model.Letter held : m.letters) {
            if (held.state == 3 && dice.nextBoolean()) {
                l = held.number;
            }
        }
        boolean passes = dice.nextBoolean();
        due("decide(" + l + ", " + passes + ")", x.decide(l, passes), m.decide(l, passes));
        if (upTo(5) == 0) {
            int s = near(m.sacks.size());
            due("lose(" + s + ")", x.lose(s), m.lose(s));
        }
    }

    private void money() {
        int p = near(m.pairs.size() - 1);
        int pence = upTo(9) == 0 ? near(1000000) : upTo(6000);
        int v = near(m.villages.size() - 1);
        int cost = 1 + (upTo(9) == 0 ? near(1000000) : upTo(40) * 100);
        int worth = upTo(9) == 0 ? near(1000) : upTo(5);
        switch (upTo(6)) {
            case 0, 1 -> due("gift(" + p + ", " + pence + ")", x.gift(p, pence), m.gift(p, pence));
            case 2 -> due("project(" + v + ", " + cost + ", " + worth + ")", x.project(v, cost, worth),
                    m.project(v, cost, worth));
            case 3 -> due("build(" + v + ")", x.build(v), m.build(v));
            case 4 -> due("choice(" + v + ")", x.choice(v), m.choice(v));
            default -> {
                int what = near(60);
                due("coin(" + what + ")", x.coin(what), m.coin(what));
            }
        }
    }

    private void leaving() {
        int c = near(m.children.size() - 1);
        int day = upTo(2) == 0 ? -1 : upTo(9) == 0 ? near(3599) : near(m.today);
        due("leaves(" + c + ", " + day + ")", x.leaves(c, day), m.leaves(c, day));
        int known = upTo(3) == 0 ? near(3599) : near(m.today);
        due("left(" + c + ", " + known + ")", x.left(c, known), m.left(c, known));
        due("amiss(" + known + ")", x.amiss(known), m.amiss(known));
    }

    private void pairing() {
        for (int i = 0; i < 3; i++) {
            int g = near(m.givers.size() - 1);
            int ages = near(31);
            int villages = near(63);
            due("wish(" + g + ", " + ages + ", " + villages + ")", x.wish(g, ages, villages), m.wish(g, ages, villages));
        }
        int p = near(m.pairs.size() - 1);
        due("end(" + p + ")", x.end(p), m.end(p));
        if (dice.nextBoolean()) {
            due("pairing()", x.pairing(), m.pairing());
        }
    }

    private void trial() {
        int all = near((1 << m.children.size()) - 1);
        int drawn = upTo(5) == 0 ? near(65535) : all & dice.nextInt();
        if (upTo(12) == 0) {
            due("trial(" + all + ", " + drawn + ")", x.trial(all, drawn), m.trial(all, drawn));
        }
        for (int i = 0; i < 4; i++) {
            int c = near(m.children.size() - 1);
            int n = upTo(3) == 0 ? near(999) : upTo(9);
            due("outcome(" + c + ", " + n + ")", x.outcome(c, n), m.outcome(c, n));
        }
        int what = near(2);
        due("doubt(" + what + ")", x.doubt(what), m.doubt(what));
    }

    private void folk() {
        switch (upTo(5)) {
            case 0 -> giver(near(5));
            case 1 -> child(near(m.villages.size() - 1), near(5), near(4), near(m.children.size()) - 1);
            case 2 -> {
                int way = near(60);
                due("village(" + way + ", 5)", x.village(way, 5), m.village(way, 5));
            }
            case 3 -> translator();
            default -> pair(near(m.givers.size() - 1), near(m.children.size() - 1));
        }
    }

    private void ask() {
        int l = near(m.letters.size() - 1);
        int p = near(m.pairs.size() - 1);
        int what = near(40);
        switch (upTo(8)) {
            case 0, 1, 2 -> due("about(" + l + ", " + what + ")", x.about(l, what), m.about(l, what));
            case 3 -> due("of(" + p + ", " + what % 6 + ")", x.of(p, what % 6), m.of(p, what % 6));
            case 4 -> due("count(" + what + ")", x.count(what), m.count(what));
            case 5 -> due("unlike(" + l + ")", x.unlike(l), m.unlike(l));
            case 6 -> due("silent(" + p + ")", x.silent(p), m.silent(p));
            case 7 -> due("hints(" + p + ")", x.hints(p), m.hints(p));
            default -> due("lag(" + what % 7 + ")", x.lag(what % 7), m.lag(what % 7));
        }
    }
}
