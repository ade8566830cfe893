import java.util.Random;
import java.util.regex.Matcher;
import java.util.regex.Pattern;

/** Promises 10 and 11: FINDS of random RULES in random texts, held against the patterns of the Java library. */
public final class RegexTest {
    private static final Probe P = new Probe();
    private static final String ATOMS = "ab1#@_.^";
    private static final String TEXT_SIGNS = "aabc1 \n";

    private static final Random RANDOM = new Random(36);

    public static void main(String[] args) {
        for (int round = 0; round < 20000; round++) {
            String[] patterns = new String[1 + RANDOM.nextInt(3)];
            StringBuilder rules = new StringBuilder();
            for (int i = 0; i < patterns.length; i++) {
                patterns[i] = pattern(0, false);
                rules.append(i > 0 ? ";c:" : "c:").append(patterns[i]);
            }
            if (rules.length() <= 200) {
                check(rules.toString(), patterns, text());
            }
        }
        P.close("RegexTest");
    }

    /** A group that is repeated holds none that is: the library would go through all ways to part a text. */
    private static String pattern(int depth, boolean repeated) {
        StringBuilder signs = new StringBuilder();
        int rows = RANDOM.nextInt(3) == 0 ? 2 + RANDOM.nextInt(2) : 1;
        for (int row = 0; row < rows; row++) {
            signs.append(row > 0 ? "|" : "");
            for (int items = 1 + RANDOM.nextInt(3); items > 0; items--) {
                boolean group = depth < 3 && RANDOM.nextInt(4) == 0;
                String behind = RANDOM.nextInt(8) < 3 ? oneOf(group && repeated ? "?" : "*+?") : "";
                boolean many = repeated || behind.equals("*") || behind.equals("+");
                signs.append(group ? "(" + pattern(depth + 1, many) + ")" : oneOf(ATOMS)).append(behind);
            }
        }
        return signs.toString();
    }

    private static String text() {
        StringBuilder text = new StringBuilder();
        for (int left = 1 + RANDOM.nextInt(8); left > 0; left--) {
            text.append(oneOf(TEXT_SIGNS));
        }
        return text.toString();
    }

    private static String oneOf(String signs) {
        int at = RANDOM.nextInt(signs.length());
        return signs.substring(at, at + 1);
    }

    private static Pattern translated(String pattern) {
        return Pattern.compile(pattern.replace("(", "(?:").replace("#", "[0-9]").replace("@", "[a-z]")
                .replace("_", "[ \n]").replace(".", "[\\s\\S]")
                .replace("^", "(?:(?<=[a-z0-9])(?![a-z0-9])|(?<![a-z0-9])(?=[a-z0-9]))"));
    }

    private static void check(String rules, String[] patterns, String text) {
        Matcher[] matchers = new Matcher[patterns.length];
        for (int i = 0; i < patterns.length; i++) {
            matchers[i] = translated(patterns[i]).matcher(text);
        }
        StringBuilder due = new StringBuilder();
        for (int at = 0; at < text.length();) {
            int[] find = firstFind(matchers, text.length(), at);
            if (find == null) {
                at++;
            } else {
                long line = text.substring(0, at).chars().filter(c -> c == '\n').count();
                due.append(find[0] + " " + at + " " + (find[1] - at) + " " + line + ";");
                at = find[1];
            }
        }
        P.dueText("finds of " + rules + " in [" + text + "]", P.finds(rules, text), due.toString());
    }

    /** The first RULE that takes something at a place, and where the longest that it takes ends. */
    private static int[] firstFind(Matcher[] matchers, int length, int at) {
        for (int rule = 0; rule < matchers.length; rule++) {
            for (int end = length; end > at; end--) {
                Matcher m = matchers[rule].region(at, end).useTransparentBounds(true).useAnchoringBounds(false);
                if (m.matches()) {
                    return new int[] {rule, end};
                }
            }
        }
        return null;
    }
}
