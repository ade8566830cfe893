import java.util.Random;

/** Wild arguments in any state, and far more calls than are promised: nothing is thrown, every call ends. */
public final class WildTest {
    private static final int[] ODD = {Integer.MIN_VALUE, Integer.MIN_VALUE + 1, -1000, -2, -1, 0, 1, 2, 3, 5, 6, 7, 12, 15, 16,
        20, 21, 39, 40, 63, 99, 100, 127, 128, 160, 199, 200, 201, 239, 240, 999, 3599, 3600, 4095, 65535, 65536,
        262143, 262144, 1000000, 1000001, Integer.MAX_VALUE - 20, Integer.MAX_VALUE};

    private final Random dice;
    private final ChildLetters x = new ChildLetters();
    private final boolean tame;
    private long sum;

    private WildTest(int run) {
        dice = new Random(run);
        tame = run % 2 == 1;
    }

    public static void main(String[] args) {
        long sum = 0;
        for (int run = 0; run < 24; run++) {
            sum = sum * 31 + new WildTest(run).play(6000);
        }
        long again = 0;
        for (int run = 0; run < 24; run++) {
            again = again * 31 + new WildTest(run).play(6000);
        }
        System.out.println("WildTest: nothing thrown, the same answers twice: " + (sum == again));
        if (sum != again) {
            System.exit(1);
        }
    }

    private int n() {
        int kind = dice.nextInt(10);
        if (tame ? kind > 0 : kind > 6) {
            return dice.nextInt(dice.nextBoolean() ? 4 : 40);
        }
        return kind == 0 && !tame ? dice.nextInt() : ODD[dice.nextInt(ODD.length)];
    }

    private int four() {
        int n = 0;
        String signs = "aab1 \nch:;#@_.^()|*+?rn07";
        for (int i = 0; i < 4; i++) {
            n = n << 8 | signs.charAt(dice.nextInt(dice.nextInt(6) == 0 ? signs.length() : 6));
        }
        return n;
    }

    private long play(int calls) {
        for (int i = 0; i < calls; i++) {
            sum = sum * 31 + (dice.nextBoolean() ? tell(dice.nextInt(18)) : ask(dice.nextInt(21)));
        }
        for (int i = 0; i < 240; i++) {
            sum = sum * 31 + x.about(i, i) + x.of(i, i % 7) + x.count(i) + x.coin(i) + x.found(i, i % 5);
        }
        return sum;
    }

    private static int bit(boolean b) {
        return b ? 1 : 0;
    }

    private long tell(int kind) {
        switch (kind) {
            case 0: return x.village(n(), n());
            case 1: return x.giver(n());
            case 2: return x.child(n(), n(), n(), n());
            case 3: return x.pair(n(), n());
            case 4: return dice.nextInt(8) == 0 ? bit(x.end(n())) : 0;
            case 5: return bit(x.number(n(), n()));
            case 6: return x.feed(four(), four(), four(), four(), four());
            case 7: return dice.nextInt(4) == 0 ? x.rules(n()) : x.feed(n(), n(), n(), n(), n());
            case 8: return x.letter(n(), n(), n(), n(), n(), n(), n());
            case 9: return x.translator(n(), n(), n(), n());
            case 10: return x.day();
            case 11: return bit(x.decide(n(), dice.nextBoolean()));
            case 12: return x.lose(n());
            case 13: return x.gift(n(), n());
            case 14: return x.project(n(), n(), n());
            case 15: return dice.nextInt(8) == 0 ? bit(x.leaves(n(), n())) : 0;
            case 16: return bit(x.wish(n(), n(), n()));
            default: return bit(x.trial(n(), n())) + bit(x.outcome(n(), n()));
        }
    }

    private long ask(int kind) {
        switch (kind) {
            case 0: return x.look(n());
            case 1: return x.found(n(), n());
            case 2: return x.about(n(), n());
            case 3: return x.hints(n());
            case 4: return x.unlike(n());
            case 5: return x.lag(n());
            case 6: return x.coin(n());
            case 7: return x.choice(n());
            case 8: return x.build(n());
            case 9: return x.left(n(), n());
            case 10: return x.amiss(n());
            case 11: return x.silent(n());
            case 12: return x.pairing();
            case 13: return x.doubt(n());
            case 14: return x.of(n(), n());
            case 15: return x.count(n());
            default: return x.day();
        }
    }
}
