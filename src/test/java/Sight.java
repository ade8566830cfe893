import java.util.ArrayList;
import java.util.List;

/** All that an office tells when it is asked, so that two sights can be held against each other. */
final class Sight {
    private final ChildLetters x;
    private final List<String> rows = new ArrayList<>();

    private Sight(ChildLetters x) {
        this.x = x;
    }

    static List<String> of(ChildLetters x) {
        Sight sight = new Sight(x);
        sight.office();
        sight.finds();
        sight.pairs();
        sight.letters();
        sight.leavings();
        return sight.rows;
    }

    /** The first row that is not the same in both, or an empty text. */
    static String unlike(List<String> one, List<String> other) {
        for (int i = 0; i < Math.max(one.size(), other.size()); i++) {
            String a = i < one.size() ? one.get(i) : "nothing";
            String b = i < other.size() ? other.get(i) : "nothing";
            if (!a.equals(b)) {
                return a + " / " + b;
            }
        }
        return "";
    }

    private void row(String call, int a, int b, long answer) {
        rows.add(call + "(" + a + ", " + b + ") = " + answer);
    }

    private void office() {
        for (int what = -1; what <= 40; what++) {
            row("count", what, 0, x.count(what));
        }
        for (int what = -1; what <= 60; what++) {
            row("coin", what, 0, x.coin(what));
        }
        for (int s = -1; s <= 6; s++) {
            row("lag", s, 0, x.lag(s));
            row("choice", s, 0, x.choice(s));
        }
        for (int what = -1; what <= 3; what++) {
            row("doubt", what, 0, x.doubt(what));
        }
    }

    private void finds() {
        for (int i = -1; i == -1 || x.found(i, 0) != ChildLetters.NONE; i++) {
            for (int what = -1; what <= 4; what++) {
                row("found", i, what, x.found(i, what));
            }
        }
    }

    private void pairs() {
        for (int p = -1; p <= x.count(4); p++) {
            for (int what = -1; what <= 6; what++) {
                row("of", p, what, x.of(p, what));
            }
            row("hints", p, 0, x.hints(p));
            row("silent", p, 0, x.silent(p));
        }
    }

    private void letters() {
        for (int l = -1; l <= x.count(6); l++) {
            for (int what = -1; what <= 20 + Math.max(0, x.about(l, 7)); what++) {
                row("about", l, what, x.about(l, what));
            }
            row("unlike", l, 0, x.unlike(l));
        }
    }

    private void leavings() {
        int today = x.count(0);
        int[] days = {-1, 0, 1, 2, 3, 4, 5, today - 1, today, today + 1, 3599, 3600};
        for (int day : days) {
            for (int c = -1; c <= x.count(3); c++) {
                row("left", c, day, x.left(c, day));
            }
            row("amiss", day, 0, x.amiss(day));
        }
    }
}
