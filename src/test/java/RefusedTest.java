import java.util.function.Supplier;

/**
 * Each ERROR of each call, in the order in which they are asked, where more than one would do; what
 * is refused changes nothing but what told() tells, or where told. (BoundsTest has each number that
 * alone is BEYOND.)
 */
public final class RefusedTest {
    private static final int MIN = Integer.MIN_VALUE;
    private static final int MAX = Integer.MAX_VALUE;

    private interface Call {
        long on(NamedPrices x);
    }

    public static void main(String[] args) {
        nobody();
        fullTown();
        fullRows();
        kinds();
        keeping();
        tooOld();
        rightPart();
        sheets();
        moves();
        numbersOfSheets();
        parted();
        faults();
        whatOnlyTells();
        eachIsCounted();
        Due.end();
    }

    private static void beyond(String call, Supplier<NamedPrices> made, Call asked) {
        refused(call, made, Due.BEYOND, asked);
    }

    private static void refused(String call, Supplier<NamedPrices> made, long error, Call asked) {
        Twins.refuse(call, made, error, asked::on);
    }

    /** Without PEOPLE and THINGS there is no number that would do. */
    private static void nobody() {
        Supplier<NamedPrices> none = Towns::empty;
        for (int v : new int[] {0, -1, 1}) {
            String of = "(" + v + ", ..) with nobody, nothing";
            beyond("personIs" + of, none, x -> x.personIs(v, 0));
            beyond("as" + of, none, x -> x.as(v, 0));
            beyond("become" + of, none, x -> x.become(v, 0));
            beyond("purse" + of, none, x -> x.purse(v, 0));
            beyond("thing" + of, none, x -> x.thing(v, 0));
            beyond("thingIs" + of, none, x -> x.thingIs(v, 0));
            beyond("worth" + of, none, x -> x.worth(v, 0, 0));
            beyond("price" + of, none, x -> x.price(v, 0));
            beyond("keep" + of, none, x -> x.keep(v, 0));
            beyond("pair" + of, none, x -> x.pair(v, v + 1, 0));
            beyond("pairIs" + of, none, x -> x.pairIs(v, 0));
            beyond("named" + of, none, x -> x.named(v));
            beyond("mended" + of, none, x -> x.mended(v));
            beyond("taken" + of, none, x -> x.taken(v, 0, 0));
            beyond("gain" + of, none, x -> x.gain(v, 0, 0));
            beyond("best" + of, none, x -> x.best(v));
            beyond("right" + of, none, x -> x.right(v));
            beyond("firm" + of, none, x -> x.firm(v, 0));
            beyond("whose" + of, none, x -> x.whose(0, v));
            beyond("voice" + of, none, x -> x.voice(v, 0, 0));
            beyond("worths" + of, none, x -> x.worths(0, v));
            beyond("check" + of, none, x -> x.check(v));
            refused("body" + of, none, Due.NONE, x -> x.body(v));
        }
        refused("restore() without an IMAGE", none, Due.NONE, NamedPrices::restore);
    }

    private static void fullTown() {
        Supplier<NamedPrices> full = Towns::full;
        refused("person: FULL", full, Due.FULL, x -> x.person(0, 0, 11));
        beyond("person: KIND, ahead of FULL", full, x -> x.person(7, 0, 11));
        beyond("person: PURSE, ahead of FULL", full, x -> x.person(0, 1000000, 11));
        beyond("person: pq, ahead of FULL", full, x -> x.person(0, 0, 21));
        refused("thing: FULL", full, Due.FULL, x -> x.thing(0, 0));
        beyond("thing: OWNER, ahead of FULL", full, x -> x.thing(6, 0));
        beyond("thing: PRICE, ahead of FULL", full, x -> x.thing(0, 10000));
        refused("pair: FULL", full, Due.FULL, x -> x.pair(0, 1, 0));
        beyond("pair: one, ahead of FULL", full, x -> x.pair(12, 1, 0));
        beyond("pair: other, ahead of FULL", full, x -> x.pair(0, -1, 0));
        beyond("pair: not two, ahead of FULL", full, x -> x.pair(3, 3, 0));
        beyond("pair: BONUS, ahead of FULL", full, x -> x.pair(0, 1, 10000));
    }

    private static NamedPrices withTape(int bytes) {
        NamedPrices x = Towns.some();
        x.untell(0);
        while (x.count(4) < bytes) {
            x.feed(x.count(4) % 2 == 0 ? '1' : '+', 1);
        }
        return x;
    }

    private static void fullRows() {
        Supplier<NamedPrices> full = Towns::full;
        for (int n = 1; n <= 8; n++) {
            int bytes = n;
            refused("60 bytes: feed(.., " + n + ")", full, Due.FULL, x -> x.feed(0, bytes));
            refused(61 - n + " bytes: feed(.., " + n + ")", () -> withTape(61 - bytes), Due.FULL,
                x -> x.feed(0, bytes));
            Due.is(60 - n + " bytes: feed(.., " + n + ")", withTape(60 - n).feed(0, n), 60);
        }
        beyond("feed: n 0, ahead of FULL", full, x -> x.feed(0, 0));
        beyond("feed: n 9, ahead of FULL", full, x -> x.feed(0, 9));
        beyond("feed: n MAX, ahead of FULL", full, x -> x.feed(0, MAX));
        refused("tell: FULL", full, Due.FULL, x -> x.tell(0));
        refused("tell: FULL", full, Due.FULL, x -> x.tell(MIN));
    }

    private static NamedPrices ofKind(int kind) {
        NamedPrices x = Towns.some();
        x.become(1, kind);
        return x;
    }

    private static void kinds() {
        int[] above = {-1, 0, 1, 1, 0, 0, 1};
        for (int kind = 0; kind <= 6; kind++) {
            int is = kind;
            for (int asked = 0; asked <= 6; asked++) {
                int other = asked;
                boolean under = kind == other || above[kind] == other
                    || above[kind] > 0 && above[above[kind]] == other;
                if (!under) {
                    refused("as(1, " + other + ") of KIND " + kind, () -> ofKind(is), Due.KIND,
                        x -> x.as(1, other));
                }
            }
        }
        beyond("as: no such KIND, ahead of KIND", Towns::some, x -> x.as(3, 7));
        beyond("as: no such one, ahead of KIND", Towns::some, x -> x.as(4, 6));
    }

    private static NamedPrices withSpares(int spares) {
        NamedPrices x = Towns.some();
        x.purse(3, 0);
        for (int i = 0; i < 4; i++) {
            x.keep(i, 0);
        }
        x.rule(3, spares);
        for (int i = 0; i < 8; i++) {
            x.thing(3, i);
        }
        for (int i = 4; i < 4 + spares; i++) {
            x.keep(i, 1);
        }
        return x;
    }

    private static void keeping() {
        for (int spares = 0; spares <= 7; spares++) {
            int kept = spares;
            NamedPrices made = withSpares(kept);
            Due.is("SPARES " + kept + ": how many are KEPT", made.personIs(3, 4), kept);
            refused("SPARES " + kept + ": keep", () -> withSpares(kept), Due.STATE,
                x -> x.keep(11, 1));
            beyond("SPARES " + kept + ": keep: on, ahead of STATE", () -> withSpares(kept),
                x -> x.keep(11, 2));
        }
    }

    private static void tooOld() {
        Supplier<NamedPrices> old = Towns::old;
        Due.is("as many YEARS as there may be", Towns.old().count(3), 9999);
        refused("years(1): above 9999", old, Due.STATE, x -> x.years(1));
        refused("years(40): above 9999", old, Due.STATE, x -> x.years(40));
        beyond("years(0), ahead of STATE", old, x -> x.years(0));
        beyond("years(41), ahead of STATE", old, x -> x.years(41));
        beyond("years(MIN), ahead of STATE", old, x -> x.years(MIN));
        beyond("years(MAX), ahead of STATE", old, x -> x.years(MAX));
    }

    /** What is worth more to its OWNER than to anybody, with a PART of 0 to pay, is best at less. */
    private static NamedPrices dear() {
        NamedPrices x = Towns.some();
        x.worth(0, 0, 9000);
        return x;
    }

    private static void rightPart() {
        Due.is("it is 0's", dear().thingIs(0, 0), 0);
        refused("right(0): with no PART", RefusedTest::dear, Due.NONE, x -> x.right(0));
        beyond("right(4), ahead of NONE", RefusedTest::dear, x -> x.right(4));
    }

    private static void sheets() {
        Supplier<NamedPrices> some = Towns::some;
        refused("sheet: n below 0", some, Due.STATE, x -> x.sheet(0, 16, -1));
        refused("sheet: n below 0, where it is missing", some, Due.STATE, x -> x.sheet(3, 16, -1));
        beyond("sheet: no such SHEET, ahead of STATE", some, x -> x.sheet(4, 16, -1));
        beyond("sheet: no such SHEET, ahead of STATE", some, x -> x.sheet(-1, 16, -1));
        beyond("sheet: no such bits, ahead of STATE", some, x -> x.sheet(0, 7, -1));
        beyond("sheet: no such bits, n above", some, x -> x.sheet(0, -8, 25));
        beyond("sheet: no such SHEET, missing", some, x -> x.sheet(4, 0, -1));
        beyond("put: no such SHEET, ahead of NONE", some, x -> x.put(4, 0, 0));
        beyond("put: no such SHEET, no such number", some, x -> x.put(-1, -1, 0));
        refused("put: it is missing", some, Due.NONE, x -> x.put(3, 0, 0));
        refused("put: it is missing, ahead of BEYOND", some, Due.NONE, x -> x.put(3, -1, 0));
        refused("put: it is missing, ahead of BEYOND", some, Due.NONE, x -> x.put(3, 24, 0));
        beyond("put: no such number of none", some, x -> x.put(2, 0, 0));
        beyond("put: no such number of none", some, x -> x.put(2, -1, 0));
    }

    private static void moves() {
        Supplier<NamedPrices> some = Towns::some;
        beyond("move: no such SHEET, ahead of NONE", some, x -> x.move(4, 0, 3, 0, 0));
        beyond("move: no such other, ahead of NONE", some, x -> x.move(3, 0, 4, 0, 0));
        beyond("move: no such SHEET, ahead of all", some, x -> x.move(-1, -1, 3, -1, -1));
        refused("move: one is missing", some, Due.NONE, x -> x.move(3, 0, 0, 0, 0));
        refused("move: the other is missing", some, Due.NONE, x -> x.move(0, 0, 3, 0, 0));
        refused("move: both are missing", some, Due.NONE, x -> x.move(3, 0, 3, 0, 0));
        refused("move: NONE, ahead of BEYOND", some, Due.NONE, x -> x.move(0, -1, 3, 0, 1));
        refused("move: NONE, ahead of BEYOND", some, Due.NONE, x -> x.move(3, 0, 0, 9, -1));
        refused("move: of unlike bits", some, Due.KIND, x -> x.move(0, 0, 1, 0, 1));
        refused("move: of unlike bits, nothing", some, Due.KIND, x -> x.move(1, 0, 0, 0, 0));
        refused("move: KIND, ahead of BEYOND's n", some, Due.KIND, x -> x.move(0, 0, 1, 0, -1));
        refused("move: KIND, ahead of BEYOND's i", some, Due.KIND, x -> x.move(0, -1, 1, 0, 1));
        refused("move: KIND, ahead of BEYOND's j", some, Due.KIND, x -> x.move(0, 0, 1, 99, 1));
        refused("move: KIND, to one of none", some, Due.KIND, x -> x.move(0, 0, 2, 0, 1));
        beyond("move: they don't stand there", some, x -> x.move(0, 3, 0, 0, 2));
        beyond("move: they don't stand there", some, x -> x.move(0, 0, 0, 3, 2));
        beyond("move: none stand there", some, x -> x.move(2, 0, 2, 0, 1));
        beyond("move: ints that would wrap", some, x -> x.move(0, 1, 0, 0, MAX));
        beyond("move: ints that would wrap", some, x -> x.move(0, MAX, 0, 0, 2));
        beyond("move: ints that would wrap", some, x -> x.move(0, 0, 0, MAX, 1));
        beyond("move: ints that would wrap", some, x -> x.move(0, MIN, 0, MIN, MIN));
        beyond("move: ints that would wrap", some, x -> x.move(0, MAX, 0, MAX, MIN));
    }

    private static void numbersOfSheets() {
        Supplier<NamedPrices> some = Towns::some;
        refused("worths: it is missing", some, Due.NONE, x -> x.worths(3, 0));
        beyond("worths: no such one, ahead of NONE", some, x -> x.worths(3, 4));
        beyond("worths: no such one, ahead of NONE", some, x -> x.worths(3, -1));
        beyond("worths: no such SHEET", some, x -> x.worths(4, 0));
        beyond("worths: no such SHEET, no such one", some, x -> x.worths(-1, 9));
        refused("judge: it is missing", some, Due.NONE, x -> x.judge(3));
        beyond("judge: no such SHEET", some, x -> x.judge(4));
    }

    /** THE TRACE is of the voice that was PARTED; 0's minds() has that one BODY, too. */
    private static void parted() {
        beyond("voice: no such voice, ahead of PARTED", Towns::some, x -> x.voice(3, 4, 0));
        beyond("voice: no such one, ahead of PARTED", Towns::some, x -> x.voice(4, 3, 0));
        Twins.refuse("voice: PARTED", Towns::some, Due.PARTED, x -> x.voice(3, 3, 0),
            x -> x.voice(0, 3, 0));
        Twins.refuse("voice: PARTED, whatever x", Towns::some, Due.PARTED,
            x -> x.voice(3, 3, MIN), x -> x.voice(0, 3, 0));
    }

    private static NamedPrices withoutTape() {
        NamedPrices x = Towns.some();
        x.text(0);
        return x;
    }

    /** No ERRORS: THE TAPE is empty then, and a TEXT ahead stays. */
    private static void faults() {
        String[] texts = {"", ")", "v)", "v+", "12345", "(((((("};
        int[] places = {0, 0, 1, 2, 4, 5};
        for (int i = 0; i < texts.length; i++) {
            String text = texts[i];
            for (int use = 0; use <= 1; use++) {
                int of = use;
                Twins.refuse("text(" + use + ") of " + text, RefusedTest::withoutTape,
                    -10 - places[i], x -> {
                        Due.feed(x, text);
                        return x.text(of);
                    });
            }
        }
    }

    private static void tells(String call, Call asked) {
        long answer = asked.on(Towns.some());
        Due.holds(call + " answers no ERROR", !Twins.isError(answer));
        Twins.refuse(call + " only tells", Towns::some, answer, asked::on);
    }

    private static void whatOnlyTells() {
        for (int v = 0; v <= 3; v++) {
            int i = v;
            tells("personIs", x -> x.personIs(i, 2 * i));
            tells("as", x -> x.as(i, 0));
            tells("thingIs", x -> x.thingIs(i, i + 2));
            tells("pairIs", x -> x.pairIs(i % 2, i));
            tells("named", x -> x.named(i));
            tells("mended", x -> x.mended(i));
            tells("taken", x -> x.taken(i, 30 * i, i % 2));
            tells("gain", x -> x.gain(i, 30 * i, i % 2));
            tells("best", x -> x.best(i));
            tells("town", x -> x.town(i));
            tells("firm", x -> x.firm(i, i % 3));
            tells("then", x -> x.then(13 * i, i));
            tells("whose", x -> x.whose(13 * i, i));
            tells("part", x -> x.part(13 * i));
            tells("body", x -> x.body(i));
            tells("judge", x -> x.judge(i % 3));
            tells("count", x -> x.count(2 * i));
            tells("told", x -> x.told(i + 1));
        }
    }

    /** ERRORS that are longs are counted, too; and told()'s own. */
    private static void eachIsCounted() {
        NamedPrices x = Towns.empty();
        Due.is("told(1)", x.told(1), 0);
        x.taken(0, 0, 0);
        Due.is("taken: told(1)", x.told(1), 1);
        x.gain(0, 0, 0);
        Due.is("gain: told(1)", x.told(1), 2);
        x.told(7);
        Due.is("told(7): told(1)", x.told(1), 3);
        x.told(0);
        Due.is("told(0): told(1)", x.told(1), 4);
        for (int i = 1; i <= 400; i++) {
            x.body(0);
        }
        Due.is("400 of one: told(2)", x.told(2), 400);
        for (int k = 3; k <= 6; k++) {
            Due.is("none of another: told(" + k + ")", x.told(k), 0);
        }
    }
}
