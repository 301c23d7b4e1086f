import java.util.function.Supplier;

/**
 * Each number that a call is given: the least and the greatest that is taken, and the next ones
 * below and above, which are BEYOND and change nothing but told(1).
 */
public final class BoundsTest {
    private static final int MIN = Integer.MIN_VALUE;
    private static final int MAX = Integer.MAX_VALUE;

    private interface Call {
        long on(NamedPrices x, int v);
    }

    public static void main(String[] args) {
        people();
        chances();
        things();
        pairs();
        rules();
        texts();
        years();
        prices();
        town();
        voices();
        sheets();
        places();
        rest();
        Due.end();
    }

    private static void bound(String call, int low, int high, Call asked) {
        bound(call, Towns::some, low, high, asked);
    }

    private static void bound(String call, Supplier<NamedPrices> made, int low, int high,
            Call asked) {
        taken(call, made, asked, low, high);
        refused(call, made, asked, low - 1, high + 1, MIN, MAX);
    }

    private static void taken(String call, Call asked, int... numbers) {
        taken(call, Towns::some, asked, numbers);
    }

    private static void taken(String call, Supplier<NamedPrices> made, Call asked,
            int... numbers) {
        for (int v : numbers) {
            NamedPrices x = made.get();
            boolean error = Twins.isError(asked.on(x, v));
            Due.holds(call + " is taken with " + v, !error);
            Due.is(call + " with " + v + ", then told(1)", x.told(1), made.get().told(1));
        }
    }

    private static void refused(String call, Call asked, int... numbers) {
        refused(call, Towns::some, asked, numbers);
    }

    private static void refused(String call, Supplier<NamedPrices> made, Call asked,
            int... numbers) {
        for (int v : numbers) {
            Twins.refuse(call + " with " + v, made, Due.BEYOND, x -> asked.on(x, v));
        }
    }

    private static void people() {
        bound("person(KIND, ..)", 0, 6, (x, v) -> x.person(v, 0, 11));
        bound("person(.., PURSE, ..)", 0, 999999, (x, v) -> x.person(0, v, 11));
        bound("personIs(person, ..)", 0, 3, (x, v) -> x.personIs(v, 0));
        bound("personIs(.., what)", 0, 6, (x, v) -> x.personIs(0, v));
        bound("as(person, ..)", 0, 3, (x, v) -> x.as(v, 0));
        taken("as(.., KIND)", (x, v) -> x.as(0, v), 0, 5);
        taken("as(.., KIND) of a BEST one", (x, v) -> x.as(2, v), 0, 6);
        refused("as(.., KIND)", (x, v) -> x.as(2, v), -1, 7, MIN, MAX);
        bound("become(person, ..)", 0, 3, (x, v) -> x.become(v, 0));
        bound("become(.., KIND)", 0, 6, (x, v) -> x.become(0, v));
        bound("purse(person, ..)", 0, 3, (x, v) -> x.purse(v, 0));
        bound("purse(.., PURSE)", 0, 999999, (x, v) -> x.purse(0, v));
    }

    /** Of q 1 .. 9 each p 0 .. q, and no other: q 0 and p above q are BEYOND. */
    private static void chances() {
        for (int pq = -30; pq <= 130; pq++) {
            boolean taken = pq >= 0 && pq % 10 > 0 && pq / 10 <= pq % 10;
            NamedPrices x = new NamedPrices();
            Due.is("person(0, 0, " + pq + ")", x.person(0, 0, pq), taken ? 0 : Due.BEYOND);
            Due.is("personIs(0, 2) of " + pq, x.personIs(0, 2), taken ? pq : Due.BEYOND);
        }
        taken("person(.., pq)", (x, v) -> x.person(0, 0, v), 1, 9, 11, 19, 99);
        refused("person(.., pq)", (x, v) -> x.person(0, 0, v), 0, -1, -9, -11, 10, 20, 21, 90, 98,
            100, 101, 109, 1001, MIN, MAX);
    }

    private static void things() {
        bound("thing(OWNER, ..)", 0, 3, (x, v) -> x.thing(v, 0));
        bound("thing(.., PRICE)", 0, 9999, (x, v) -> x.thing(0, v));
        bound("thingIs(thing, ..)", 0, 3, (x, v) -> x.thingIs(v, 0));
        bound("thingIs(.., what)", 0, 5, (x, v) -> x.thingIs(0, v));
        bound("worth(person, ..)", 0, 3, (x, v) -> x.worth(v, 0, 1));
        bound("worth(.., thing, ..)", 0, 3, (x, v) -> x.worth(0, v, 1));
        bound("worth(.., WORTH)", 0, 9999, (x, v) -> x.worth(0, 0, v));
        bound("price(thing, ..)", 0, 3, (x, v) -> x.price(v, 1));
        bound("price(.., PRICE)", 0, 9999, (x, v) -> x.price(0, v));
        bound("keep(thing, ..)", 0, 3, (x, v) -> x.keep(v, 0));
        bound("keep(thing, 1)", 0, 3, (x, v) -> x.keep(v, 1));
        bound("keep(.., on)", 0, 1, (x, v) -> x.keep(0, v));
    }

    private static void pairs() {
        bound("pair(one, ..)", 0, 3, (x, v) -> x.pair(v, v == 0 ? 1 : 0, 5));
        bound("pair(.., other, ..)", 0, 3, (x, v) -> x.pair(v == 0 ? 1 : 0, v, 5));
        bound("pair(.., BONUS)", 0, 9999, (x, v) -> x.pair(0, 1, v));
        taken("pair(0, other): two THINGS", (x, v) -> x.pair(0, v, 5), 1, 2, 3);
        refused("pair(thing, the same)", (x, v) -> x.pair(v, v, 5), -1, 0, 1, 2, 3, 4);
        taken("pair(.., ..): one there is already", (x, v) -> x.pair(v, 1 - v, 5), 0, 1);
        bound("pairIs(pair, ..)", 0, 1, (x, v) -> x.pairIs(v, 0));
        taken("pairIs(0, what)", (x, v) -> x.pairIs(0, v), 0, 3);
        refused("pairIs(.., what)", (x, v) -> x.pairIs(0, v), -1, 4, MIN, MAX);
    }

    private static void rules() {
        int[] high = {99, 99, 2, 9, 999};
        for (int i = 0; i < high.length; i++) {
            int rule = i;
            bound("rule(" + rule + ", v)", 0, high[rule], (x, v) -> x.rule(rule, v));
            NamedPrices x = new NamedPrices();
            x.rule(rule, high[rule]);
            Due.is("rule(" + rule + ", 0): what it was", x.rule(rule, 0), high[rule]);
            Due.is("rule(" + rule + ", 0): what it was", x.rule(rule, 0), 0);
        }
        bound("rule(rule, ..)", 0, 4, (x, v) -> x.rule(v, 0));
    }

    private static void texts() {
        bound("feed(.., n)", 1, 8, (x, v) -> x.feed(-1L, v));
        bound("text(use)", 0, 1, NamedPrices::text);
        bound("untell(use)", 0, 1, NamedPrices::untell);
    }

    private static void years() {
        bound("named(thing)", 0, 3, NamedPrices::named);
        bound("mended(thing)", 0, 3, NamedPrices::mended);
        bound("years(n)", 1, 40, NamedPrices::years);
        for (int v : new int[] {MIN, -1, 0, 1, MAX}) {
            NamedPrices x = Towns.some();
            x.seed(v);
            Due.is("seed(0): any number", x.seed(0), v);
        }
    }

    private static void prices() {
        bound("taken(thing, ..)", 0, 3, (x, v) -> x.taken(v, 0, 0));
        bound("taken(.., PRICE, ..)", 0, 9999, (x, v) -> x.taken(0, v, 0));
        bound("taken(.., part)", 0, 1, (x, v) -> x.taken(0, 0, v));
        bound("gain(thing, ..)", 0, 3, (x, v) -> x.gain(v, 0, 0));
        bound("gain(.., PRICE, ..)", 0, 9999, (x, v) -> x.gain(0, v, 0));
        bound("gain(.., part)", 0, 1, (x, v) -> x.gain(0, 0, v));
        bound("best(thing)", 0, 3, NamedPrices::best);
        bound("right(thing)", BoundsTest::worthNothing, 0, 3, NamedPrices::right);
    }

    /** What is worth nothing to anybody has its worth as its BEST PRICE. */
    private static NamedPrices worthNothing() {
        NamedPrices x = Towns.some();
        for (int i = 0; i < 16; i++) {
            x.worth(i / 4, i % 4, 0);
        }
        return x;
    }

    private static NamedPrices withLongerSheet() {
        NamedPrices x = Towns.some();
        x.sheet(1, 16, 6);
        return x;
    }

    private static void town() {
        bound("town(what)", 0, 6, NamedPrices::town);
        bound("firm(person, ..)", 0, 3, (x, v) -> x.firm(v, 0));
        bound("firm(.., what)", 0, 2, (x, v) -> x.firm(0, v));
        bound("then(n, ..)", 0, 40, (x, v) -> x.then(v, 0));
        bound("then(.., what)", 0, 6, (x, v) -> x.then(1, v));
        bound("whose(n, ..)", 0, 40, (x, v) -> x.whose(v, 0));
        bound("whose(.., thing)", 0, 3, (x, v) -> x.whose(1, v));
        bound("part(n)", 0, 40, NamedPrices::part);
    }

    private static void voices() {
        bound("voice(person, ..)", 0, 3, (x, v) -> x.voice(v, 0, 0));
        bound("voice(.., voice, ..)", 0, 3, (x, v) -> x.voice(2, v, 0));
        taken("voice(.., x)", (x, v) -> x.voice(0, 0, v), MIN, -1, 0, MAX);
        taken("body(i)", NamedPrices::body, 0, 11);
        for (int v : new int[] {-1, 12, 29, 30, MIN, MAX}) {
            Twins.refuse("body(" + v + ")", Towns::some, Due.NONE, x -> x.body(v));
        }
    }

    private static void sheets() {
        for (int bits = 8; bits <= 32; bits *= 2) {
            int width = bits;
            taken("sheet(0, " + bits + ", n)", (x, v) -> x.sheet(0, width, v), 0, 1, 24);
            refused("sheet(0, " + bits + ", n)", (x, v) -> x.sheet(0, width, v), 25, MAX);
            for (int v : new int[] {-1, -24, MIN}) {
                Twins.refuse("sheet(0, " + bits + ", " + v + ")", Towns::some, Due.STATE,
                    x -> x.sheet(0, width, v));
            }
        }
        taken("sheet(0, 0, n)", (x, v) -> x.sheet(0, 0, v), MIN, -1, 0, 24, 25, MAX);
        taken("sheet(0, bits, 4)", (x, v) -> x.sheet(0, v, 4), 0, 8, 16, 32);
        refused("sheet(0, bits, 4)", (x, v) -> x.sheet(0, v, 4), MIN, -32, -16, -8, -1, 1, 7, 9, 15,
            17, 24, 31, 33, 64, MAX);
        bound("sheet(sheet, ..)", 0, 3, (x, v) -> x.sheet(v, 8, 4));
        bound("sheet(sheet, 0, ..)", 0, 3, (x, v) -> x.sheet(v, 0, 0));
        taken("put(sheet, ..)", (x, v) -> x.put(v, 0, 1), 0, 1);
        taken("judge(sheet)", NamedPrices::judge, 0, 1, 2);
        taken("worths(sheet, ..)", (x, v) -> x.worths(v, 0), 0, 1, 2);
        refused("put(sheet, ..)", (x, v) -> x.put(v, 0, 1), -1, 4, MIN, MAX);
        refused("judge(sheet)", NamedPrices::judge, -1, 4, MIN, MAX);
        refused("worths(sheet, ..)", (x, v) -> x.worths(v, 0), -1, 4, MIN, MAX);
        bound("worths(.., person)", 0, 3, (x, v) -> x.worths(0, v));
        bound("put(.., v)'s i of 4", 0, 3, (x, v) -> x.put(0, v, 1));
        bound("put(.., v)'s i of 5", 0, 4, (x, v) -> x.put(1, v, 1));
        taken("put(.., v)", (x, v) -> x.put(0, 0, v), MIN, -1, 0, MAX);
    }

    /** What is moved from, to, and how much of it: SHEET 0 has 4 numbers, SHEET 1 is made 6 long. */
    private static void places() {
        refused("move(sheet, ..)", (x, v) -> x.move(v, 0, 0, 0, 1), -1, 4, MIN, MAX);
        refused("move(.., other, ..)", (x, v) -> x.move(0, 0, v, 0, 1), -1, 4, MIN, MAX);
        bound("move(0, i, 0, 0, 1)", 0, 3, (x, v) -> x.move(0, v, 0, 0, 1));
        bound("move(0, 0, 0, j, 1)", 0, 3, (x, v) -> x.move(0, 0, 0, v, 1));
        bound("move(0, 0, 0, 0, n)", 0, 4, (x, v) -> x.move(0, 0, 0, 0, v));
        bound("move(0, i, 0, 0, 0)", 0, 4, (x, v) -> x.move(0, v, 0, 0, 0));
        bound("move(0, 0, 0, j, 0)", 0, 4, (x, v) -> x.move(0, 0, 0, v, 0));
        bound("move(0, 2, 0, 0, n)", 0, 2, (x, v) -> x.move(0, 2, 0, 0, v));
        bound("move(0, 0, 0, 1, n)", 0, 3, (x, v) -> x.move(0, 0, 0, 1, v));
        Supplier<NamedPrices> longer = BoundsTest::withLongerSheet;
        bound("move(0, 0, 1, j, 4)", longer, 0, 2, (x, v) -> x.move(0, 0, 1, v, 4));
        bound("move(1, i, 0, 0, 4)", longer, 0, 2, (x, v) -> x.move(1, v, 0, 0, 4));
        bound("move(0, 0, 1, 0, n)", longer, 0, 4, (x, v) -> x.move(0, 0, 1, 0, v));
        bound("move(1, 0, 0, 0, n)", longer, 0, 4, (x, v) -> x.move(1, 0, 0, 0, v));
    }

    private static void rest() {
        taken("check(person)", NamedPrices::check, 0, 3);
        for (int v : new int[] {-1, 4, MIN, MAX}) {
            Twins.refuse("check(" + v + "): none wait then, too", Towns::some, Due.BEYOND,
                x -> x.check(v), x -> x.check(0));
        }
        bound("count(what)", 0, 7, NamedPrices::count);
        bound("told(k)", 1, 6, NamedPrices::told);
        taken("tell(v)", (x, v) -> x.tell(v), MIN, -1, 0, MAX);
    }
}
