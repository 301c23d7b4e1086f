/** Promises 26 to 30: town, firm, then, whose, part. */
public final class TownTest {
    public static void main(String[] args) {
        town();
        firm();
        then();
        whose();
        part();
        Due.end();
    }

    private static NamedPrices made() {
        NamedPrices x = new NamedPrices();
        x.person(0, 300, 11);
        x.person(1, 250, 11);
        x.thing(0, 100);
        x.thing(0, 60);
        x.thing(0, 90);
        x.thing(1, 10);
        int[][] worths = {{50, 60, 70, 80}, {160, 61, 90, 5}};
        for (int i = 0; i < 2; i++) {
            for (int k = 0; k < 4; k++) {
                x.worth(i, k, worths[i][k]);
            }
        }
        return x;
    }

    private static void town() {
        NamedPrices x = made();
        int[] due = {185, 160 + 61 + 90 + 80, 550, 0, 0, 400, 260};
        for (int what = 0; what <= 6; what++) {
            Due.is("town(" + what + ")", x.town(what), due[what]);
        }
        x.pair(0, 1, 1000);
        x.pair(0, 3, 2000);
        Due.is("town(0) with BONUSES that are had", x.town(0), 1185);
        Due.is("town(1) without BONUSES", x.town(1), 391);
        Due.is("town(7)", x.town(7), Due.BEYOND);
        Due.is("town(-1)", x.town(-1), Due.BEYOND);
        x.rule(0, 10);
        Due.is("years(1)", x.years(1), 3);
        // PRICES 100, 60, 90, 5; 25 paid; person 1 takes 0 and 1, person 0 takes 3.
        int[] after = {144 + 54 + 70 + 72, 144 + 54 + 90 + 72, 525, 25, 3, 400 - 30, 255};
        Due.is("PURSE of 0", x.personIs(0, 1), 300 - 25 + 160 - 5);
        Due.is("PURSE of 1", x.personIs(1, 1), 250 - 160 + 5);
        for (int what = 1; what <= 6; what++) {
            Due.is("a YEAR on: town(" + what + ")", x.town(what), after[what]);
        }
        Due.is("a YEAR on: town(0)", x.town(0), after[0] + 1000);
    }

    private static void firm() {
        NamedPrices x = made();
        int[][] due = {{1, 70, 8}, {2, 61, 3}};
        for (int i = 0; i < 2; i++) {
            for (int what = 0; what <= 2; what++) {
                Due.is("firm(" + i + ", " + what + ")", x.firm(i, what), due[i][what]);
            }
        }
        x.worth(1, 2, 91);
        x.purse(1, 250);
        Due.is("what is left is just enough", x.firm(1, 2), 7);
        x.purse(1, 249);
        Due.is("what is left is not enough", x.firm(1, 2), 3);
        x.purse(1, 99);
        Due.is("the first is too dear, the next is not", x.firm(1, 2), 2);
        x.purse(1, 250);
        x.keep(0, 1);
        Due.is("but what is KEPT", x.firm(1, 2), 6);
        Due.is("but what is KEPT: above", x.firm(1, 1), 2);
        x.pair(1, 3, 500);
        Due.is("no BONUS counts", x.firm(1, 1), 2);
        x.purse(1, 0);
        Due.is("with nothing", x.firm(1, 0), 0);
        Due.is("firm(2, 0)", x.firm(2, 0), Due.BEYOND);
        Due.is("firm(-1, 0)", x.firm(-1, 0), Due.BEYOND);
        Due.is("firm(0, 3)", x.firm(0, 3), Due.BEYOND);
        Due.is("firm(0, -1)", x.firm(0, -1), Due.BEYOND);
    }

    private static void then() {
        NamedPrices x = made();
        x.rule(2, 1);
        for (int n = 0; n <= 40; n += 4) {
            NamedPrices y = made();
            y.rule(2, 1);
            if (n > 0) {
                y.years(n);
            }
            for (int what = 0; what <= 6; what++) {
                Due.is("then(" + n + ", " + what + ")", x.then(n, what), y.town(what));
            }
            for (int k = 0; k < 4; k++) {
                Due.is("whose(" + n + ", " + k + ")", x.whose(n, k), y.thingIs(k, 0));
            }
        }
        x.pair(3, 2, 400);
        x.pair(1, 2, 500);
        x.pair(2, 0, 600);
        Due.is("then(0, 0) with BONUSES", x.then(0, 0), x.town(0));
        Due.is("then: no YEAR went by", x.count(3), 0);
        Due.is("then: no draw was had", x.count(7), 1);
        Due.is("then: nothing moved", x.town(4), 0);
        Due.is("then(-1, 0)", x.then(-1, 0), Due.BEYOND);
        Due.is("then(41, 0)", x.then(41, 0), Due.BEYOND);
        Due.is("then(0, 7)", x.then(0, 7), Due.BEYOND);
        Due.is("then(0, -1)", x.then(0, -1), Due.BEYOND);
    }

    private static void whose() {
        NamedPrices x = made();
        Due.is("whose(0, 0)", x.whose(0, 0), 0);
        Due.is("whose(1, 0)", x.whose(1, 0), 1);
        Due.is("whose(1, 2)", x.whose(1, 2), 0);
        Due.is("whose(1, 3)", x.whose(1, 3), 0);
        Due.is("whose(-1, 0)", x.whose(-1, 0), Due.BEYOND);
        Due.is("whose(41, 0)", x.whose(41, 0), Due.BEYOND);
        Due.is("whose(0, 4)", x.whose(0, 4), Due.BEYOND);
        Due.is("whose(0, -1)", x.whose(0, -1), Due.BEYOND);
        Due.is("whose: nothing moved", x.thingIs(0, 0), 0);
    }

    private static NamedPrices namedByPart() {
        NamedPrices x = new NamedPrices();
        x.person(5, 0, 11);
        x.person(0, 500, 11);
        x.thing(0, 0);
        x.worth(0, 0, 50);
        x.worth(1, 0, 90);
        x.rule(1, 0);
        return x;
    }

    private static void part() {
        NamedPrices x = namedByPart();
        Due.feed(x, "102-r");
        x.text(0);
        // It is sold below 90: with PART 13 or more.
        Due.is("part(1)", x.part(1), 13);
        Due.is("part(0): of several the least", x.part(0), 0);
        Due.is("part: PART is as it was", x.rule(0, 5), 5);
        Due.is("part: no YEAR went by", x.count(3), 0);
        Due.feed(x, "119-r");
        x.text(0);
        Due.is("the last that is tried", x.part(1), 30);
        Due.feed(x, "120-r");
        x.text(0);
        Due.is("31 is not tried", x.part(1), 0);
        for (int n = 0; n <= 40; n += 10) {
            NamedPrices y = made();
            y.become(0, 6);
            y.person(4, 400, 23);
            y.worth(2, 0, 170);
            y.worth(2, 2, 300);
            int got = y.part(n);
            int best = 0;
            int most = -1;
            for (int tried = 0; tried <= 30; tried++) {
                y.rule(0, tried);
                int held = y.then(n, 0);
                best = held > most ? tried : best;
                most = Math.max(most, held);
            }
            Due.is("part(" + n + ") by then()", got, best);
        }
        Due.is("part(-1)", x.part(-1), Due.BEYOND);
        Due.is("part(41)", x.part(41), Due.BEYOND);
    }
}
