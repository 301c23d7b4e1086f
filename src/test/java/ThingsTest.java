/** Promises 7 to 14: thing, thingIs, worth, price, keep, pair, pairIs, rule. */
public final class ThingsTest {
    private static final int MIN = Integer.MIN_VALUE;
    private static final int MAX = Integer.MAX_VALUE;

    public static void main(String[] args) {
        thing();
        thingIs();
        worth();
        price();
        keep();
        keptAboveSpares();
        pair();
        pairIs();
        rule();
        Due.end();
    }

    private static NamedPrices two() {
        NamedPrices x = new NamedPrices();
        x.person(1, 1000, 11);
        x.person(1, 1000, 11);
        x.thing(0, 10);
        x.thing(1, 20);
        x.thing(0, 30);
        return x;
    }

    private static void thing() {
        NamedPrices x = new NamedPrices();
        Due.is("thing(0, 0) with nobody", x.thing(0, 0), Due.BEYOND);
        x.person(0, 0, 11);
        int[][] beyond = {{-1, 0}, {1, 0}, {MIN, 0}, {MAX, 0}, {0, -1}, {0, 10000}, {0, MIN}, {0, MAX}};
        for (int[] a : beyond) {
            Due.is("thing(" + a[0] + ", " + a[1] + ")", x.thing(a[0], a[1]), Due.BEYOND);
        }
        for (int i = 0; i < 12; i++) {
            Due.is("thing number " + i, x.thing(0, i == 0 ? 0 : 9999), i);
        }
        Due.is("thing: a thirteenth", x.thing(0, 0), Due.FULL);
        Due.is("thing: BEYOND is asked first", x.thing(0, 10000), Due.BEYOND);
        Due.is("thing: twelve", x.count(1), 12);
        Due.is("thing: told(4)", x.told(4), 1);
    }

    private static void thingIs() {
        NamedPrices x = two();
        int[][] fresh = {{0, 10, 100, 0, 0, 0}, {1, 20, 100, 0, 0, 0}};
        for (int i = 0; i < 2; i++) {
            for (int what = 0; what <= 5; what++) {
                Due.is("thingIs(" + i + ", " + what + ")", x.thingIs(i, what), fresh[i][what]);
            }
        }
        x.worth(0, 1, 50);
        Due.is("thingIs(1, 5): not the owner", x.thingIs(1, 5), 0);
        x.worth(1, 1, 50);
        Due.is("thingIs(1, 5): of like ones the least", x.thingIs(1, 5), 0);
        x.worth(1, 1, 51);
        Due.is("thingIs(1, 5): the owner", x.thingIs(1, 5), 1);
        Due.is("thingIs(1, 4)", x.thingIs(1, 4), 51);
        x.keep(1, 1);
        Due.is("thingIs(1, 3)", x.thingIs(1, 3), 1);
        x.keep(1, 0);
        // It moves once, is then 67 SOUND, and is kept: VALUE is cut, and like VALUES meet.
        x.rule(1, 33);
        x.worth(0, 1, 9999);
        x.price(1, 1);
        x.become(1, 0);
        x.years(1);
        Due.is("thingIs(1, 0) after it moved", x.thingIs(1, 0), 0);
        Due.is("thingIs(1, 2): broken by 33, mended by 10", x.thingIs(1, 2), 77);
        Due.is("thingIs(1, 4): 9999 * 77 / 100, cut", x.thingIs(1, 4), 7699);
        Due.is("thingIs(-1, 0)", x.thingIs(-1, 0), Due.BEYOND);
        Due.is("thingIs(3, 0)", x.thingIs(3, 0), Due.BEYOND);
        Due.is("thingIs(0, 6)", x.thingIs(0, 6), Due.BEYOND);
        Due.is("thingIs(0, -1)", x.thingIs(0, -1), Due.BEYOND);
        Due.is("thingIs(MAX, MIN)", x.thingIs(MAX, MIN), Due.BEYOND);
    }

    private static void worth() {
        NamedPrices x = two();
        Due.is("worth(1, 2, 9999)", x.worth(1, 2, 9999), 0);
        Due.is("worth(1, 2, 10000)", x.worth(1, 2, 10000), Due.BEYOND);
        Due.is("worth(1, 2, -1)", x.worth(1, 2, -1), Due.BEYOND);
        Due.is("worth(2, 2, 0)", x.worth(2, 2, 0), Due.BEYOND);
        Due.is("worth(-1, 2, 0)", x.worth(-1, 2, 0), Due.BEYOND);
        Due.is("worth(1, 3, 0)", x.worth(1, 3, 0), Due.BEYOND);
        Due.is("worth(1, -1, 0)", x.worth(1, -1, 0), Due.BEYOND);
        Due.is("worth(0, 2, 3)", x.worth(0, 2, 3), 0);
        Due.is("worth(1, 2, 0)", x.worth(1, 2, 0), 9999);
        Due.is("worth(0, 2, 0)", x.worth(0, 2, 0), 3);
        Due.is("worth: told(1)", x.told(1), 6);
    }

    private static void price() {
        NamedPrices x = two();
        Due.is("price(1, 9999)", x.price(1, 9999), 20);
        Due.is("price(1, 10000)", x.price(1, 10000), Due.BEYOND);
        Due.is("price(1, -1)", x.price(1, -1), Due.BEYOND);
        Due.is("price(3, 1)", x.price(3, 1), Due.BEYOND);
        Due.is("price(-1, 1)", x.price(-1, 1), Due.BEYOND);
        Due.is("price(1, 0)", x.price(1, 0), 9999);
        Due.is("price: thingIs(1, 1)", x.thingIs(1, 1), 0);
        Due.is("price: town(6)", x.town(6), 40);
    }

    private static void keep() {
        NamedPrices x = two();
        Due.is("keep(0, 1)", x.keep(0, 1), 0);
        Due.is("keep(0, 1) again", x.keep(0, 1), 1);
        Due.is("keep(2, 1): one is kept", x.keep(2, 1), Due.STATE);
        Due.is("keep(1, 1): another owner's", x.keep(1, 1), 0);
        Due.is("keep: personIs(0, 4)", x.personIs(0, 4), 1);
        Due.is("keep(2, 0): it wasn't", x.keep(2, 0), 0);
        Due.is("keep(0, 0)", x.keep(0, 0), 1);
        Due.is("keep(2, 1) now", x.keep(2, 1), 0);
        Due.is("keep(0, 2)", x.keep(0, 2), Due.BEYOND);
        Due.is("keep(0, -1)", x.keep(0, -1), Due.BEYOND);
        Due.is("keep(3, 1)", x.keep(3, 1), Due.BEYOND);
        Due.is("keep(-1, 1)", x.keep(-1, 1), Due.BEYOND);
        Due.is("keep: told(3)", x.told(3), 1);
    }

    private static void keptAboveSpares() {
        NamedPrices x = two();
        x.rule(3, 2);
        x.keep(0, 1);
        x.keep(2, 1);
        x.rule(3, 0);
        Due.is("SPARES 0: keep(2, 1), kept already", x.keep(2, 1), 1);
        Due.is("SPARES 0: keep(2, 0)", x.keep(2, 0), 1);
        Due.is("SPARES 0: keep(2, 1)", x.keep(2, 1), Due.STATE);
        Due.is("SPARES 0: keep(1, 1)", x.keep(1, 1), Due.STATE);
    }

    private static void pair() {
        NamedPrices x = two();
        int[][] beyond = {{-1, 0, 0}, {3, 0, 0}, {0, -1, 0}, {0, 3, 0}, {1, 1, 0}, {0, 1, -1},
            {0, 1, 10000}, {MIN, MAX, 0}};
        for (int[] a : beyond) {
            String call = "pair(" + a[0] + ", " + a[1] + ", " + a[2] + ")";
            Due.is(call, x.pair(a[0], a[1], a[2]), Due.BEYOND);
        }
        for (int i = 0; i < 6; i++) {
            Due.is("pair number " + i, x.pair(i % 2 == 0 ? 0 : 1, 2, i == 0 ? 9999 : 0), i);
        }
        Due.is("pair: a seventh", x.pair(0, 1, 0), Due.FULL);
        Due.is("pair: BEYOND is asked first", x.pair(0, 0, 0), Due.BEYOND);
        Due.is("pair: six", x.count(2), 6);
    }

    private static void pairIs() {
        NamedPrices x = two();
        x.pair(2, 0, 70);
        x.pair(0, 1, 8);
        int[][] due = {{2, 0, 70, 0}, {0, 1, 8, -1}};
        for (int i = 0; i < 2; i++) {
            for (int what = 0; what <= 3; what++) {
                Due.is("pairIs(" + i + ", " + what + ")", x.pairIs(i, what), due[i][what]);
            }
        }
        Due.is("pairIs(2, 0)", x.pairIs(2, 0), Due.BEYOND);
        Due.is("pairIs(-1, 0)", x.pairIs(-1, 0), Due.BEYOND);
        Due.is("pairIs(0, 4)", x.pairIs(0, 4), Due.BEYOND);
        Due.is("pairIs(0, -1)", x.pairIs(0, -1), Due.BEYOND);
        Due.is("town(0) with the BONUS of one", x.town(0), 70);
        brokenPair(50, 0);
        brokenPair(51, -1);
    }

    /** Thing 1 comes to person 0, broken by so much, and isn't mended. */
    private static void brokenPair(int breaks, int due) {
        NamedPrices x = two();
        x.pair(0, 1, 8);
        x.pair(1, 0, 0);
        x.rule(1, breaks);
        x.rule(4, 999);
        x.become(1, 0);
        x.worth(0, 1, 500);
        x.years(1);
        Due.is("BREAKS " + breaks + ": thingIs(1, 0)", x.thingIs(1, 0), 0);
        Due.is("BREAKS " + breaks + ": thingIs(1, 2)", x.thingIs(1, 2), 100 - breaks);
        Due.is("BREAKS " + breaks + ": pairIs(0, 3)", x.pairIs(0, 3), due);
        Due.is("BREAKS " + breaks + ": pairIs(1, 3)", x.pairIs(1, 3), due);
        Due.is("BREAKS " + breaks + ": personIs(0, 5)", x.personIs(0, 5), 0);
        int held = 500 * (100 - breaks) / 100;
        Due.is("BREAKS " + breaks + ": town(0)", x.town(0), held + (due == 0 ? 8 : 0));
    }

    private static void rule() {
        int[] first = {5, 10, 0, 1, 20};
        int[] high = {99, 99, 2, 9, 999};
        NamedPrices x = new NamedPrices();
        for (int i = 0; i < 5; i++) {
            Due.is("rule(" + i + ", above)", x.rule(i, high[i] + 1), Due.BEYOND);
            Due.is("rule(" + i + ", -1)", x.rule(i, -1), Due.BEYOND);
            Due.is("rule(" + i + ", the highest)", x.rule(i, high[i]), first[i]);
            Due.is("rule(" + i + ", 0)", x.rule(i, 0), high[i]);
        }
        Due.is("rule(-1, 0)", x.rule(-1, 0), Due.BEYOND);
        Due.is("rule(5, 0)", x.rule(5, 0), Due.BEYOND);
        Due.is("rule(MAX, MAX)", x.rule(MAX, MAX), Due.BEYOND);
        Due.is("rule: told(1)", x.told(1), 13);
    }
}
