/** None, and as many as there may be: each of them is there with all that belongs to it. */
public final class FullTest {
    public static void main(String[] args) {
        people();
        things();
        worths();
        sounds();
        spares();
        pairs();
        bits();
        bytes();
        digits();
        open();
        longTexts();
        numbersThatWait();
        numbersOfSheets();
        bodies();
        years();
        yearsAhead();
        images();
        Due.end();
    }

    private static void people() {
        NamedPrices x = new NamedPrices();
        Due.is("nobody: count(0)", x.count(0), 0);
        int[] chances = {1, 99, 23, 59, 78, 11};
        for (int i = 0; i < 6; i++) {
            Due.is("person " + i, x.person(6 - i, 111111 * i + 5, chances[i]), i);
            Due.is("count(0)", x.count(0), i + 1);
        }
        Due.is("a seventh", x.person(0, 0, 11), Due.FULL);
        for (int i = 0; i < 6; i++) {
            Due.is("personIs(" + i + ", 0)", x.personIs(i, 0), 6 - i);
            Due.is("personIs(" + i + ", 1)", x.personIs(i, 1), 111111 * i + 5);
            Due.is("personIs(" + i + ", 2)", x.personIs(i, 2), chances[i]);
        }
        for (int i = 0; i < 6; i++) {
            Due.is("become(" + i + ", " + i + ")", x.become(i, i), 6 - i);
            Due.is("purse(" + i + ", " + i + ")", x.purse(i, i), 111111 * i + 5);
        }
        for (int i = 0; i < 6; i++) {
            Due.is("then personIs(" + i + ", 0)", x.personIs(i, 0), i);
            Due.is("then personIs(" + i + ", 1)", x.personIs(i, 1), i);
        }
    }

    private static void things() {
        NamedPrices x = new NamedPrices();
        for (int i = 0; i < 6; i++) {
            x.person(0, 0, 11);
        }
        Due.is("nothing: count(1)", x.count(1), 0);
        for (int i = 0; i < 12; i++) {
            Due.is("thing " + i, x.thing(i * 5 % 6, 800 * i + 7), i);
            Due.is("count(1)", x.count(1), i + 1);
        }
        Due.is("a thirteenth", x.thing(0, 0), Due.FULL);
        for (int i = 0; i < 12; i++) {
            Due.is("thingIs(" + i + ", 0)", x.thingIs(i, 0), i * 5 % 6);
            Due.is("thingIs(" + i + ", 1)", x.thingIs(i, 1), 800 * i + 7);
            Due.is("thingIs(" + i + ", 2)", x.thingIs(i, 2), 100);
            Due.is("thingIs(" + i + ", 3)", x.thingIs(i, 3), 0);
        }
        Due.is("SOUND of all", x.town(5), 1200);
        Due.is("PRICES of all", x.town(6), 800 * 66 + 12 * 7);
        for (int i = 0; i < 12; i++) {
            Due.is("price(" + i + ", " + i + ")", x.price(i, i), 800 * i + 7);
        }
        for (int i = 6; i < 12; i++) {
            Due.is("keep(" + i + ", 1)", x.keep(i, 1), 0);
            Due.is("keep(" + (i - 6) + ", 1)", x.keep(i - 6, 1), Due.STATE);
        }
        for (int i = 0; i < 12; i++) {
            Due.is("then thingIs(" + i + ", 1)", x.thingIs(i, 1), i);
            Due.is("then thingIs(" + i + ", 3)", x.thingIs(i, 3), i / 6);
        }
    }

    private static void worths() {
        NamedPrices x = new NamedPrices();
        for (int i = 0; i < 6; i++) {
            x.person(1, 0, 11);
        }
        for (int i = 0; i < 12; i++) {
            x.thing(0, 0);
        }
        for (int i = 0; i < 72; i++) {
            Due.is("WORTH is 0 at first", x.worth(i / 12, i % 12, 9999 - 100 * i), 0);
        }
        for (int i = 0; i < 72; i++) {
            Due.is("worth(" + i / 12 + ", " + i % 12 + ", ..)", x.worth(i / 12, i % 12, i),
                9999 - 100 * i);
        }
        for (int i = 0; i < 12; i++) {
            Due.is("thingIs(" + i + ", 5): the last", x.thingIs(i, 5), 5);
            Due.is("thingIs(" + i + ", 4)", x.thingIs(i, 4), i);
        }
        Due.is("MOST of all", x.town(1), 12 * 60 + 66);
        Due.is("HELD of all", x.town(0), 66);
        Due.is("VALUES of what one owns", x.personIs(0, 6), 66);
    }

    /** All twelve move, each once, and are less SOUND by the same. */
    private static void sounds() {
        NamedPrices x = new NamedPrices();
        x.person(0, 0, 11);
        x.person(0, 999999, 11);
        for (int i = 0; i < 12; i++) {
            x.thing(0, i);
            x.worth(1, i, 200);
        }
        x.rule(0, 0);
        x.rule(1, 4);
        x.rule(4, 999);
        Due.is("all move", x.years(1), 12);
        for (int i = 0; i < 12; i++) {
            Due.is("thingIs(" + i + ", 2)", x.thingIs(i, 2), 96);
            Due.is("thingIs(" + i + ", 0)", x.thingIs(i, 0), 1);
        }
        Due.is("SOUND of all", x.town(5), 12 * 96);
        Due.is("what is paid for all", x.personIs(0, 1), 66);
    }

    private static void spares() {
        for (int spares = 0; spares <= 9; spares++) {
            NamedPrices x = new NamedPrices();
            x.person(0, 0, 11);
            for (int i = 0; i < 12; i++) {
                x.thing(0, 0);
            }
            Due.is("SPARES at first", x.rule(3, spares), 1);
            for (int i = 0; i < 12; i++) {
                long due = i < spares ? 0 : Due.STATE;
                Due.is("SPARES " + spares + ": keep(" + i + ", 1)", x.keep(i, 1), due);
            }
            Due.is("SPARES " + spares + ": KEPT", x.personIs(0, 4), spares);
            for (int i = 0; i < 12; i++) {
                Due.is("keep(" + i + ", 0)", x.keep(i, 0), i < spares ? 1 : 0);
            }
            Due.is("none is KEPT", x.personIs(0, 4), 0);
        }
    }

    private static void pairs() {
        NamedPrices x = new NamedPrices();
        x.person(0, 0, 11);
        x.person(0, 0, 11);
        for (int i = 0; i < 12; i++) {
            x.thing(i < 6 ? 0 : 1, 0);
        }
        Due.is("none: count(2)", x.count(2), 0);
        for (int i = 0; i < 6; i++) {
            Due.is("pair " + i, x.pair(11 - i, i, 9999 - i), i);
            Due.is("count(2)", x.count(2), i + 1);
        }
        Due.is("a seventh", x.pair(0, 1, 1), Due.FULL);
        for (int i = 0; i < 6; i++) {
            Due.is("pairIs(" + i + ", 0)", x.pairIs(i, 0), 11 - i);
            Due.is("pairIs(" + i + ", 1)", x.pairIs(i, 1), i);
            Due.is("pairIs(" + i + ", 2)", x.pairIs(i, 2), 9999 - i);
            Due.is("pairIs(" + i + ", 3)", x.pairIs(i, 3), -1);
        }
        Due.is("all lack: personIs(0, 5)", x.personIs(0, 5), 63);
        Due.is("all lack: personIs(1, 5)", x.personIs(1, 5), 63);
        Due.is("no BONUS is had", x.town(0), 0);
        NamedPrices y = new NamedPrices();
        y.person(0, 0, 11);
        y.person(0, 0, 11);
        for (int i = 0; i < 7; i++) {
            y.thing(1, 0);
        }
        for (int i = 0; i < 6; i++) {
            y.pair(i, i + 1, 9999);
        }
        Due.is("all are had", y.town(0), 6 * 9999);
        Due.is("the last is had", y.pairIs(5, 3), 1);
        Due.is("who has both lacks none", y.personIs(1, 5), 0);
        Due.is("who has none lacks none", y.personIs(0, 5), 0);
    }

    private static void bits() {
        NamedPrices x = new NamedPrices();
        x.person(0, 0, 11);
        x.person(0, 999999, 11);
        for (int i = 0; i < 12; i++) {
            x.thing(0, 9998);
            x.worth(1, i, 9999);
        }
        Due.is("all twelve: firm(1, 0)", x.firm(1, 0), 12);
        Due.is("all twelve: firm(1, 1)", x.firm(1, 1), 12);
        Due.is("all twelve: firm(1, 2)", x.firm(1, 2), 4095);
        Due.is("none: firm(0, 0)", x.firm(0, 0), 0);
        Due.is("none: firm(0, 1)", x.firm(0, 1), 0);
        Due.is("none: firm(0, 2)", x.firm(0, 2), 0);
        x.purse(1, 12 * 9998 - 1);
        Due.is("but the last: firm(1, 2)", x.firm(1, 2), 2047);
        Due.is("but the last: firm(1, 0)", x.firm(1, 0), 11);
    }

    /** One who is TOLD, and what they own. */
    private static NamedPrices told() {
        NamedPrices x = new NamedPrices();
        x.person(5, 0, 11);
        x.thing(0, 0);
        x.worth(0, 0, 77);
        return x;
    }

    private static void text(NamedPrices x, String text, int due) {
        Due.feed(x, text);
        Due.is("count(4) of " + text, x.count(4), text.length());
        Due.is("text(0) of " + text, x.text(0), 1);
        Due.is("named(0) by " + text, x.named(0), due);
    }

    private static void fault(NamedPrices x, String text, int place) {
        Due.feed(x, text);
        Due.is("text(0) of " + text, x.text(0), -10 - place);
    }

    private static void bytes() {
        NamedPrices x = told();
        Due.is("none: count(4)", x.count(4), 0);
        Due.is("none: text(0)", x.text(0), -10);
        for (int i = 1; i <= 60; i++) {
            Due.is("byte " + i, x.feed(i % 2 == 1 ? '2' : '+', 1), i);
        }
        Due.is("a 61st", x.feed('2', 1), Due.FULL);
        Due.is("60: it ends too early", x.text(0), -70);
        Due.is("count(4)", x.count(4), 0);
        for (int i = 1; i <= 59; i++) {
            x.feed(i % 2 == 1 ? '2' : '+', 1);
        }
        Due.is("59: text(0)", x.text(0), 1);
        Due.is("59: named(0)", x.named(0), 60);
        text(x, "!0" + "+2".repeat(29), 59);
        text(x, "33" + "+2".repeat(29), 91);
        fault(x, "3" + "+2".repeat(29) + "v", 59);
        fault(x, "3" + "+2".repeat(29) + "+", 60);
        text(x, "3" + "+2".repeat(28) + "*50", 3 + 54 + 100);
        for (int i = 0; i < 7; i++) {
            Due.is("feed(.., 8)", x.feed(0x2B312B312B312B31L, 8), 8 * i + 8);
        }
        Due.is("feed(.., 4)", x.feed(0x30302B31L, 4), 60);
        Due.is("all sixty", x.text(0), 1);
        Due.is("all sixty: named(0)", x.named(0), 29);
    }

    private static void digits() {
        NamedPrices x = told();
        text(x, "7", 7);
        text(x, "78", 78);
        text(x, "789", 789);
        text(x, "7891", 7891);
        fault(x, "78912", 4);
        text(x, "0000", 0);
        fault(x, "00000", 4);
        text(x, "9999", 9999);
        fault(x, "v+99999", 6);
        text(x, "9999-9998", 1);
        text(x, "(9999)-9998", 1);
        fault(x, "1+", 2);
    }

    private static void open() {
        NamedPrices x = told();
        String[] most = {"!!!!!v", "(((((v)))))", "!(!(!v))", "(!(!(v)))", "((((!v))))",
            "!!!!(v)", "(((v+(1*(v-1)))))", "1+(1+(1+(1+(1+(0-0)))))", "!(((!0)))"};
        int[] due = {0, 77, 0, 1, 0, 1, 77 + 76, 5, 0};
        for (int i = 0; i < most.length; i++) {
            text(x, most[i], due[i]);
        }
        fault(x, "!!!!!!v", 5);
        fault(x, "((((((v))))))", 5);
        fault(x, "!!!!!(v)", 5);
        fault(x, "(((((!v)))))", 5);
        fault(x, "v+(v*(v-(v/(v%(v+(v))))))", 17);
        text(x, "!!!!!0+!!!!!0+(((((0)))))+!(!(!0))", 3);
        fault(x, "!!!!!0+!!!!!!0", 12);
        fault(x, "(((((0)))))+((((((0))))))", 17);
        fault(x, "(((((0))+((0)+(0)))", 19);
        fault(x, "!(((!!0)))", 5);
        fault(x, "(((((0))+(((0)))))", 11);
        text(x, "(((((0))+((9)))))", 9);
        fault(x, "(((((0)))))+(((((0)))))+!!!!!(0)", 29);
    }

    /** Signs that wait for their other side, as many as a TEXT of 60 bytes can have. */
    private static void longTexts() {
        NamedPrices x = told();
        text(x, "2|0&3<1+4*(0|2&5>1+2*(0|3&4<1+1*(6|0&1=1+2*(0|7&1<1+2*8))))", 1);
        text(x, "0|0&9>1-9*(0|0&9>1-9*(0|0&9>1-9*(0|0&9>1-9*(0|0&9>1-9))))", 0);
        text(x, "9000-3*(1|2&3<4*(2+5-(3*(7-2%4))))", 8997);
        text(x, "99-2*(8-1*(7-1*(6-1*(5-1*(4-1)))))", 89);
        text(x, "91-(2-(3-(4-(5-(6-7*8/9%5)))))", 88);
        text(x, "!0+!1*!!2-!!!0%!3", 1);
        text(x, "((1<2)<(3<4))<((1=1)=(2=2))", 1);
        text(x, "!!!!!0+!!!!!0+!!!!!0+!!!!!0+!!!!!0+!!!!!0+!!!!!0+!!!!!0+!!!0", 9);
    }

    private static void numbersThatWait() {
        NamedPrices x = new NamedPrices();
        x.person(0, 0, 11);
        for (int i = 0; i < 12; i++) {
            x.thing(0, 0);
        }
        Due.is("none waits: count(5)", x.count(5), 0);
        Due.is("none waits, one is due: check(0)", x.check(0), 1);
        for (int i = 1; i <= 24; i++) {
            Due.is("tell " + i, x.tell(i - 1), i);
            Due.is("count(5)", x.count(5), i);
        }
        Due.is("a 25th", x.tell(0), Due.FULL);
        Due.is("count(5)", x.count(5), 24);
        Due.is("twelve of them are too many", x.check(0), 13);
        for (int i = 0; i < 12; i++) {
            x.tell(i);
        }
        Due.is("all twelve", x.check(0), 0);
        for (int i = 0; i < 11; i++) {
            x.tell(i);
        }
        Due.is("the last lacks", x.check(0), 12);
        for (int i = 0; i <= 12; i++) {
            x.tell(i);
        }
        Due.is("one is too many", x.check(0), 13);
        NamedPrices y = new NamedPrices();
        y.person(0, 0, 11);
        Due.is("who has none, none waits", y.check(0), 0);
        for (int i = 0; i < 24; i++) {
            y.tell(i);
        }
        Due.is("who has none, 24 wait", y.check(0), 1);
        Due.is("who has none, none waits", y.check(0), 0);
    }

    private static void numbersOfSheets() {
        for (int bits = 8; bits <= 32; bits *= 2) {
            NamedPrices x = new NamedPrices();
            x.person(1, 0, 11);
            for (int i = 0; i < 12; i++) {
                x.thing(0, 0);
            }
            Due.is("a SHEET of 24", x.sheet(2, bits, 24), 1);
            Due.is("a SHEET of none", x.sheet(1, bits, 0), 1);
            for (int i = 0; i < 24; i++) {
                Due.is("put(2, " + i + ", ..)", x.put(2, i, 100 + i), 1);
            }
            Due.is("put(2, 24, ..)", x.put(2, 24, 0), Due.BEYOND);
            Due.is("put(1, 0, ..)", x.put(1, 0, 0), Due.BEYOND);
            Due.is("the first twelve", x.worths(2, 0), 12);
            for (int i = 0; i < 12; i++) {
                Due.is("number " + i, x.thingIs(i, 4), 100 + i);
            }
            Due.is("move the rest ahead", x.move(2, 12, 2, 0, 12), 12);
            Due.is("the last twelve", x.worths(2, 0), 12);
            for (int i = 0; i < 12; i++) {
                Due.is("number " + (12 + i), x.thingIs(i, 4), 112 + i);
            }
            Due.is("judged", x.judge(2), 12);
            Due.is("of none: move(1, 0, 2, 24, 0)", x.move(1, 0, 2, 24, 0), 0);
            Due.is("of none: worths(1, 0)", x.worths(1, 0), 0);
            Due.is("of none: judge(1)", x.judge(1), 0);
            Due.is("all of it: move(2, 0, 2, 0, 24)", x.move(2, 0, 2, 0, 24), 24);
            Due.is("one too many: move(2, 0, 2, 0, 25)", x.move(2, 0, 2, 0, 25), Due.BEYOND);
        }
    }

    /** No voice has more than twelve BODIES, so that the hold at 30 is looked at from inside. */
    private static void bodies() {
        NamedPrices x = new NamedPrices();
        x.person(6, 0, 11);
        Due.is("no voice yet: count(6)", x.count(6), 0);
        Due.is("no voice yet: body(0)", x.body(0), Due.NONE);
        x.voice(0, 3, 0);
        Due.is("the longest: count(6)", x.count(6), 12);
        Due.is("the longest: body(11)", x.body(11), 10);
        Due.is("the longest: body(12)", x.body(12), Due.NONE);
        x.voice(0, 0, 0);
        Due.is("the latest: count(6)", x.count(6), 3);
        Due.is("the latest: body(2)", x.body(2), 10);
        Due.is("the latest: body(3)", x.body(3), Due.NONE);
        for (int i = 3; i < 40; i++) {
            if (!Inside.begin(x, 10 + i)) {
                return;
            }
            Due.is("the first 30: count(6)", x.count(6), Math.min(30, i + 1));
        }
        Due.is("the first 30: body(29)", x.body(29), 39);
        Due.is("the first 30: body(30)", x.body(30), Due.NONE);
    }

    private static void years() {
        NamedPrices x = new NamedPrices();
        for (int i = 0; i < 249; i++) {
            x.years(40);
        }
        Due.is("count(3)", x.count(3), 9960);
        Due.is("years(40): 10000", x.years(40), Due.STATE);
        Due.is("count(3)", x.count(3), 9960);
        Due.is("years(38): 9998", x.years(38), 0);
        Due.is("years(2): 10000", x.years(2), Due.STATE);
        Due.is("years(1): 9999", x.years(1), 0);
        Due.is("count(3)", x.count(3), 9999);
        Due.is("years(1): 10000", x.years(1), Due.STATE);
        Due.is("image()", x.image(), 1);
        Due.is("restore(): YEARS so far", x.restore(), 9999);
    }

    /** AHEAD is no ERROR, where YEARS would be: they would go by. */
    private static void yearsAhead() {
        NamedPrices x = Towns.old();
        Due.is("then(40, 0)", x.then(40, 0), 90);
        Due.is("whose(40, 0)", x.whose(40, 0), 0);
        Due.is("part(40)", x.part(40), 0);
        x.become(0, 5);
        Due.feed(x, "y-9999");
        x.text(0);
        Due.is("then(0, 6)", x.then(0, 6), 90);
        Due.is("then(1, 6): y is 9999", x.then(1, 6), 0);
        Due.is("then(2, 6): y is 10000", x.then(2, 6), 1);
        Due.is("then(40, 6): y is 10038", x.then(40, 6), 39);
        Due.is("count(3)", x.count(3), 9999);
    }

    private static void images() {
        NamedPrices x = new NamedPrices();
        for (int i = 1; i <= 200; i++) {
            Due.is("image " + i, x.image(), i);
            Due.is("restore()", x.restore(), 0);
        }
        Due.is("one more", x.image(), 201);
    }
}
