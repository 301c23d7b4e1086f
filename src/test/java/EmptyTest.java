/** A row that is missing or empty: no PEOPLE, no THINGS, nobody else, no TEXT, no SHEET, no IMAGE. */
public final class EmptyTest {
    public static void main(String[] args) {
        nobody();
        nothing();
        nobodyElse();
        noWorth();
        noTape();
        noSheet();
        emptySheet();
        noImage();
        emptyImage();
        noTrace();
        noneWait();
        Due.end();
    }

    private static void nobody() {
        for (int pot = 0; pot <= 2; pot++) {
            NamedPrices x = new NamedPrices();
            x.rule(2, pot);
            String said = "nobody, POT " + pot + ": ";
            Due.is(said + "years(40)", x.years(40), 0);
            Due.is(said + "count(3)", x.count(3), 40);
            Due.is(said + "no draw was had", x.count(7), 1);
            for (int what = 0; what <= 6; what++) {
                Due.is(said + "town(" + what + ")", x.town(what), 0);
                Due.is(said + "then(40, " + what + ")", x.then(40, what), 0);
                Due.is(said + "then(0, " + what + ")", x.then(0, what), 0);
            }
            Due.is(said + "part(0)", x.part(0), 0);
            Due.is(said + "part(40)", x.part(40), 0);
        }
    }

    private static void nothing() {
        NamedPrices x = new NamedPrices();
        x.person(1, 10, 11);
        x.person(6, 20, 11);
        for (int i = 0; i < 2; i++) {
            for (int what = 3; what <= 6; what++) {
                Due.is("nothing: personIs(" + i + ", " + what + ")", x.personIs(i, what), 0);
            }
            for (int what = 0; what <= 2; what++) {
                Due.is("nothing: firm(" + i + ", " + what + ")", x.firm(i, what), 0);
            }
            Due.is("nothing: check(" + i + ")", x.check(i), 0);
        }
        x.sheet(0, 8, 3);
        Due.is("nothing: worths(0, 0)", x.worths(0, 0), 0);
        Due.is("nothing: judge(0): as many as there are", x.judge(0), 0);
        Due.is("nothing: years(40)", x.years(40), 0);
        Due.is("nothing: no draw was had", x.count(7), 1);
        int[] due = {0, 0, 30, 0, 0, 0, 0};
        for (int what = 0; what <= 6; what++) {
            Due.is("nothing: town(" + what + ")", x.town(what), due[what]);
            Due.is("nothing: then(7, " + what + ")", x.then(7, what), due[what]);
        }
        Due.is("nothing: part(40)", x.part(40), 0);
    }

    private static void nobodyElse() {
        NamedPrices x = new NamedPrices();
        x.person(1, 500, 11);
        x.thing(0, 60);
        x.worth(0, 0, 44);
        int[] prices = {0, 1, 43, 44, 45, 9999};
        for (int price : prices) {
            Due.is("nobody comes: taken(0, " + price + ", 0)", x.taken(0, price, 0), 0);
            Due.is("nobody comes: taken(0, " + price + ", 1)", x.taken(0, price, 1), 1);
        }
        Due.is("gain(0, 0, 0): VALUE", x.gain(0, 0, 0), 44);
        Due.is("gain(0, 0, 1)", x.gain(0, 0, 1), 1);
        Due.is("gain(0, 20, 0): 1 less", x.gain(0, 20, 0), 43);
        Due.is("best(0)", x.best(0), 0);
        Due.is("right(0)", x.right(0), Due.NONE);
        Due.is("thingIs(0, 5)", x.thingIs(0, 5), 0);
        x.worth(0, 0, 0);
        Due.is("worth nothing: right(0)", x.right(0), 0);
        Due.is("worth nothing: thingIs(0, 5)", x.thingIs(0, 5), 0);
        Due.is("worth nothing: gain(0, 0, 0)", x.gain(0, 0, 0), 0);
        Due.is("worth nothing: gain(0, 0, 1)", x.gain(0, 0, 1), 1);
        x.worth(0, 0, 44);
        x.become(0, 4);
        Due.is("SPITE: named(0)", x.named(0), 0);
        x.become(0, 5);
        Due.feed(x, "m+9");
        x.text(0);
        Due.is("TOLD: m is 0 without", x.named(0), 9);
        x.become(0, 0);
        Due.is("years(5)", x.years(5), 0);
        Due.is("no draw was had", x.count(7), 1);
        Due.is("3 of 60 each YEAR", x.town(3), 15);
    }

    private static void noWorth() {
        NamedPrices x = new NamedPrices();
        x.person(0, 0, 11);
        x.person(0, 0, 11);
        x.thing(1, 0);
        Due.is("WORTH 0: thingIs(0, 4)", x.thingIs(0, 4), 0);
        Due.is("WORTH 0: thingIs(0, 5): the least number", x.thingIs(0, 5), 0);
        Due.is("WORTH 0, PRICE 0: years(1)", x.years(1), 0);
        Due.is("a draw was had", x.count(7), 1103515245 + 12345);
        x.worth(0, 0, 1);
        Due.is("WORTH 1, PRICE 0, PURSE 0: years(1)", x.years(1), 1);
    }

    private static void noTape() {
        NamedPrices x = new NamedPrices();
        x.person(5, 0, 11);
        x.thing(0, 0);
        x.worth(0, 0, 21);
        for (int use = 0; use <= 1; use++) {
            Due.is("no bytes: text(" + use + ")", x.text(use), -10);
            Due.is("no TEXT: untell(" + use + ")", x.untell(use), 0);
        }
        Due.is("no ERROR", x.told(1), 0);
        Due.is("without a TEXT v", x.named(0), 21);
        Due.feed(x, "0");
        Due.is("text(0)", x.text(0), 1);
        Due.is("a TEXT of 0", x.named(0), 0);
        Due.is("no bytes: text(0)", x.text(0), -10);
        Due.is("the one ahead stays", x.named(0), 0);
        Due.is("untell(0)", x.untell(0), 1);
        Due.is("untell(0)", x.untell(0), 0);
        Due.is("without a TEXT v", x.named(0), 21);
    }

    private static void noSheet() {
        NamedPrices x = new NamedPrices();
        x.person(0, 0, 11);
        for (int i = 0; i < 4; i++) {
            Due.is("missing as at first: put(" + i + ", 0, 0)", x.put(i, 0, 0), Due.NONE);
            Due.is("missing: judge(" + i + ")", x.judge(i), Due.NONE);
            Due.is("missing: worths(" + i + ", 0)", x.worths(i, 0), Due.NONE);
            Due.is("missing: move(" + i + ", 0, 0, 0, 0)", x.move(i, 0, 0, 0, 0), Due.NONE);
            Due.is("sheet(" + i + ", 32, 1)", x.sheet(i, 32, 1), 1);
            Due.is("there: judge(" + i + ")", x.judge(i), 0);
            Due.is("sheet(" + i + ", 0, 1)", x.sheet(i, 0, 1), 1);
            Due.is("missing again: put(" + i + ", 0, 0)", x.put(i, 0, 0), Due.NONE);
            Due.is("sheet(" + i + ", 0, 1): missing already", x.sheet(i, 0, 1), 1);
            Due.is("missing still: judge(" + i + ")", x.judge(i), Due.NONE);
        }
    }

    private static void emptySheet() {
        NamedPrices x = new NamedPrices();
        x.person(0, 0, 11);
        x.thing(0, 0);
        x.sheet(0, 16, 0);
        x.sheet(1, 16, 2);
        Due.is("no numbers: put(0, 0, 0)", x.put(0, 0, 0), Due.BEYOND);
        Due.is("no numbers: worths(0, 0)", x.worths(0, 0), 0);
        Due.is("one without a number: judge(0)", x.judge(0), 0);
        Due.is("with one that is NAMED: judge(1)", x.judge(1), 1);
        Due.is("none of none: move(0, 0, 0, 0, 0)", x.move(0, 0, 0, 0, 0), 0);
        Due.is("none of none: move(0, 0, 1, 2, 0)", x.move(0, 0, 1, 2, 0), 0);
        Due.is("none to none: move(1, 2, 0, 0, 0)", x.move(1, 2, 0, 0, 0), 0);
        Due.is("none, from beyond: move(0, 1, 1, 0, 0)", x.move(0, 1, 1, 0, 0), Due.BEYOND);
        Due.is("none, to beyond: move(1, 0, 0, 1, 0)", x.move(1, 0, 0, 1, 0), Due.BEYOND);
        Due.is("one of none: move(0, 0, 1, 0, 1)", x.move(0, 0, 1, 0, 1), Due.BEYOND);
        Due.is("one to none: move(1, 0, 0, 0, 1)", x.move(1, 0, 0, 0, 1), Due.BEYOND);
    }

    private static void noImage() {
        NamedPrices x = new NamedPrices();
        x.years(3);
        Due.is("restore()", x.restore(), Due.NONE);
        Due.is("count(3)", x.count(3), 3);
        Due.is("restore()", x.restore(), Due.NONE);
        Due.is("told(2)", x.told(2), 2);
        Due.is("image()", x.image(), 1);
        Due.is("restore()", x.restore(), 3);
    }

    /** An IMAGE of nobody, nothing, brings that back. */
    private static void emptyImage() {
        NamedPrices x = new NamedPrices();
        Due.is("image()", x.image(), 1);
        x.person(5, 9, 11);
        x.person(0, 9, 11);
        x.thing(0, 9);
        x.thing(0, 9);
        x.worth(1, 1, 99);
        x.pair(0, 1, 9);
        x.keep(0, 1);
        for (int i = 0; i <= 4; i++) {
            x.rule(i, 2);
        }
        Due.feed(x, "9");
        x.text(0);
        Due.feed(x, "9");
        x.text(1);
        x.years(2);
        Due.feed(x, "9");
        x.tell(9);
        x.seed(9);
        Due.is("restore()", x.restore(), 0);
        for (int what = 0; what <= 6; what++) {
            Due.is("count(" + what + ")", x.count(what), 0);
            Due.is("town(" + what + ")", x.town(what), 0);
        }
        Due.is("count(7)", x.count(7), 1);
        int[] rules = {5, 10, 0, 1, 20};
        for (int i = 0; i <= 4; i++) {
            Due.is("rule(" + i + ", 0)", x.rule(i, 0), rules[i]);
        }
        Due.is("untell(0)", x.untell(0), 0);
        Due.is("untell(1)", x.untell(1), 0);
        Due.is("person(1, 0, 11)", x.person(1, 0, 11), 0);
        Due.is("thing(0, 0)", x.thing(0, 0), 0);
        Due.is("keep(0, 0)", x.keep(0, 0), 0);
    }

    private static void noTrace() {
        NamedPrices x = new NamedPrices();
        Due.is("no voice: count(6)", x.count(6), 0);
        int[] off = {Integer.MIN_VALUE, -1, 0, 1, 29, 30, Integer.MAX_VALUE};
        for (int i : off) {
            Due.is("no voice: body(" + i + ")", x.body(i), Due.NONE);
        }
        Due.is("nobody's voice", x.voice(0, 0, 0), Due.BEYOND);
        Due.is("nobody's voice: count(6)", x.count(6), 0);
    }

    private static void noneWait() {
        NamedPrices x = new NamedPrices();
        Due.is("nobody: check(0)", x.check(0), Due.BEYOND);
        x.person(0, 0, 11);
        Due.is("none wait, who has none: check(0)", x.check(0), 0);
        x.tell(0);
        Due.is("one waits, who has none: check(0)", x.check(0), 1);
        Due.is("none wait then: count(5)", x.count(5), 0);
        x.thing(0, 0);
        Due.is("none wait, who has one: check(0)", x.check(0), 1);
        x.tell(0);
        Due.is("one waits, who has one: check(0)", x.check(0), 0);
        Due.is("none wait then: check(0)", x.check(0), 1);
    }
}
