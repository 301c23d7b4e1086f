import java.util.ArrayList;
import java.util.List;

/**
 * All that can be seen of an object, call by call. To look at what no call only tells, much of it
 * is changed on the way: what was looked at is not used further.
 */
final class Seen {
    final List<String> calls = new ArrayList<>();
    final List<Long> answers = new ArrayList<>();
    private final NamedPrices x;

    private Seen(NamedPrices x) {
        this.x = x;
    }

    static Seen of(NamedPrices x) {
        Seen all = new Seen(x);
        all.errors();
        all.trace();
        all.town();
        all.rows();
        all.sheets();
        all.image();
        return all;
    }

    private void add(String call, long answer) {
        calls.add(call);
        answers.add(answer);
    }

    private void errors() {
        for (int k = 1; k <= 6; k++) {
            add("told(" + k + ")", x.told(k));
        }
    }

    private void trace() {
        int n = x.count(6);
        add("count(6)", n);
        for (int i = 0; i <= n; i++) {
            add("body(" + i + ")", x.body(i));
        }
    }

    private void town() {
        for (int what = 0; what <= 5; what++) {
            add("count(" + what + ")", x.count(what));
        }
        add("count(7)", x.count(7));
        for (int what = 3; what <= 4; what++) {
            add("town(" + what + ")", x.town(what));
        }
        int people = x.count(0);
        int things = x.count(1);
        int pairs = x.count(2);
        for (int i = 0; i < people; i++) {
            for (int what = 0; what <= 2; what++) {
                add("personIs(" + i + ", " + what + ")", x.personIs(i, what));
            }
        }
        for (int i = 0; i < things; i++) {
            for (int what = 0; what <= 3; what++) {
                add("thingIs(" + i + ", " + what + ")", x.thingIs(i, what));
            }
            add("named(" + i + ")", x.named(i));
            add("mended(" + i + ")", x.mended(i));
        }
        for (int i = 0; i < pairs; i++) {
            for (int what = 0; what <= 2; what++) {
                add("pairIs(" + i + ", " + what + ")", x.pairIs(i, what));
            }
        }
    }

    /** RULES, TEXTS, WORTHS, THE TAPE and what waits: told only as they are changed. */
    private void rows() {
        add("check(1)", x.check(1));
        for (int use = 0; use <= 1; use++) {
            add("untell(" + use + ")", x.untell(use));
        }
        add("text(0)", x.text(0));
        int people = x.count(0);
        int things = x.count(1);
        for (int i = 0; i < things; i++) {
            add("named(" + i + ") by THE TAPE", x.named(i));
        }
        for (int i = 0; i <= 4; i++) {
            add("rule(" + i + ", 0)", x.rule(i, 0));
        }
        for (int i = 0; i < people; i++) {
            for (int k = 0; k < things; k++) {
                add("worth(" + i + ", " + k + ", 0)", x.worth(i, k, 0));
            }
        }
    }

    /** Of which bits a SHEET is, and how long, is seen as nothing is moved to its end. */
    private void sheets() {
        int told = Math.min(4, x.count(1));
        for (int s = 0; s < 4; s++) {
            for (int other = s; other < 4; other++) {
                String call = "move(" + s + ", 0, " + other + ", 0, 0)";
                add(call, x.move(s, 0, other, 0, 0));
            }
            add("how long SHEET " + s + " is", lengthOf(s));
            add("worths(" + s + ", 0)", x.worths(s, 0));
            for (int i = 0; i < told; i++) {
                add("SHEET " + s + ", number " + i, x.worth(0, i, 0));
            }
        }
    }

    private int lengthOf(int sheet) {
        int length = 0;
        for (int step = 16; step > 0; step /= 2) {
            length += x.move(sheet, length + step, sheet, 0, 0) == 0 ? step : 0;
        }
        return length;
    }

    private void image() {
        add("image() kept: restore()", x.restore());
        town();
        add("image()", x.image());
    }
}
