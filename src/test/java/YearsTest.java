/** Promises 18 to 21: named, mended, years, seed. */
public final class YearsTest {
    public static void main(String[] args) {
        named();
        mended();
        mendedInTurn();
        yearsEdges();
        naming();
        paying();
        asking();
        draws();
        selling();
        breaking();
        sharing();
        givingToThePoorest();
        alone();
        seed();
        Due.end();
    }

    private static void named() {
        NamedPrices x = new NamedPrices();
        x.person(0, 0, 11);
        x.thing(0, 77);
        x.worth(0, 0, 91);
        int[] alone = {77, 91, 182, 45, 0, 91, 0};
        for (int kind = 0; kind <= 6; kind++) {
            x.become(0, kind);
            // Nobody comes: with a PART to pay, the least is best.
            Due.is("alone, KIND " + kind + ": named(0)", x.named(0), alone[kind]);
        }
        x.person(0, 0, 12);
        x.worth(1, 0, 201);
        x.person(0, 0, 1);
        x.worth(2, 0, 150);
        int[] among = {77, 91, 182, 45, 200, 91, 200};
        for (int kind = 0; kind <= 6; kind++) {
            x.become(0, kind);
            Due.is("among others, KIND " + kind + ": named(0)", x.named(0), among[kind]);
        }
        x.worth(0, 0, 9999);
        x.become(0, 2);
        Due.is("HIGH is held at 9999", x.named(0), 9999);
        x.become(0, 4);
        x.worth(1, 0, 0);
        x.worth(2, 0, 0);
        Due.is("SPITE of nothing is held at 0", x.named(0), 0);
        Due.is("named(1)", x.named(1), Due.BEYOND);
        Due.is("named(-1)", x.named(-1), Due.BEYOND);
        Due.is("named: nothing is changed", x.thingIs(0, 1), 77);
    }

    /** A THING that person 1 has bought from person 0: broken by so much, not mended. */
    private static NamedPrices broken(int breaks, int worth) {
        NamedPrices x = new NamedPrices();
        x.person(0, 0, 11);
        x.person(0, 1000, 11);
        x.thing(0, 1);
        x.worth(1, 0, worth);
        x.rule(0, 0);
        x.rule(1, breaks);
        x.rule(4, 999);
        x.years(1);
        Due.is("it moved", x.thingIs(0, 0), 1);
        Due.is("it is broken", x.thingIs(0, 2), 100 - breaks);
        return x;
    }

    private static void mended() {
        NamedPrices x = broken(50, 1000);
        x.rule(4, 50);
        Due.is("VALUE by 10 is MENDS", x.mended(0), 1);
        x.rule(4, 51);
        Due.is("VALUE by 10 is less", x.mended(0), 0);
        x.rule(4, 50);
        x.purse(1, 50);
        Due.is("PURSE is MENDS", x.mended(0), 1);
        x.purse(1, 49);
        Due.is("PURSE is less", x.mended(0), 0);
        x.rule(4, 0);
        x.purse(1, 0);
        Due.is("it costs nothing", x.mended(0), 1);
        x.worth(1, 0, 1019);
        x.purse(1, 100);
        x.rule(4, 51);
        Due.is("VALUE 509 by 10 is cut", x.mended(0), 0);
        x.worth(1, 0, 1020);
        Due.is("VALUE 510 by 10", x.mended(0), 1);
        Due.is("mended(1)", x.mended(1), Due.BEYOND);
        Due.is("mended(-1)", x.mended(-1), Due.BEYOND);
        Due.is("mended: nothing is changed", x.thingIs(0, 2), 50);
        x.keep(0, 1);
        Due.feed(x, "1");
        x.text(1);
        x.years(5);
        NamedPrices y = new NamedPrices();
        y.person(0, 1000, 11);
        y.thing(0, 5);
        y.worth(0, 0, 9999);
        Due.is("a sound one is not mended", y.mended(0), 0);
        Due.feed(y, "1");
        y.text(1);
        Due.is("a sound one is not mended by a TEXT", y.mended(0), 0);
        Due.is("five years of mending: once", x.thingIs(0, 2), 60);
        Due.is("five years of mending: only while there is money", x.personIs(1, 1), 100 - 51);
    }

    /** What is paid for one THING lacks for the next, and SOUND is 100 at most. */
    private static void mendedInTurn() {
        NamedPrices x = new NamedPrices();
        x.person(0, 0, 11);
        x.person(0, 100, 11);
        for (int i = 0; i < 3; i++) {
            x.thing(0, 0);
            x.worth(1, i, 900);
        }
        x.rule(0, 0);
        x.rule(1, 7);
        x.rule(4, 40);
        x.years(1);
        Due.is("the first is mended, up to 100", x.thingIs(0, 2), 100);
        Due.is("the second", x.thingIs(1, 2), 100);
        Due.is("for the third the PURSE lacks", x.thingIs(2, 2), 93);
        Due.is("PURSE", x.personIs(1, 1), 20);
    }

    private static void yearsEdges() {
        NamedPrices x = new NamedPrices();
        Due.is("years(0)", x.years(0), Due.BEYOND);
        Due.is("years(41)", x.years(41), Due.BEYOND);
        Due.is("years(-1)", x.years(-1), Due.BEYOND);
        Due.is("years(MIN)", x.years(Integer.MIN_VALUE), Due.BEYOND);
        for (int i = 0; i < 249; i++) {
            Due.is("years(40) with nobody", x.years(40), 0);
        }
        Due.is("count(3)", x.count(3), 9960);
        Due.is("years(40): above 9999", x.years(40), Due.STATE);
        Due.is("years(41): BEYOND is asked first", x.years(41), Due.BEYOND);
        Due.is("count(3)", x.count(3), 9960);
        Due.is("years(39)", x.years(39), 0);
        Due.is("count(3)", x.count(3), 9999);
        Due.is("years(1)", x.years(1), Due.STATE);
        Due.is("then(40, 0): AHEAD has no such bound", x.then(40, 0), 0);
        Due.is("years: told(3)", x.told(3), 2);
    }

    private static void naming() {
        NamedPrices x = new NamedPrices();
        x.person(5, 1000, 1);
        x.person(3, 1000, 1);
        x.thing(0, 3);
        x.thing(1, 3);
        x.worth(1, 1, 81);
        Due.feed(x, "p*10+y");
        x.text(0);
        x.rule(0, 0);
        x.years(1);
        Due.is("p*10+y in YEAR 0", x.thingIs(0, 1), 30);
        Due.is("LOW", x.thingIs(1, 1), 40);
        x.years(1);
        Due.is("p*10+y in YEAR 1", x.thingIs(0, 1), 301);
        x.years(1);
        Due.is("p*10+y in YEAR 2", x.thingIs(0, 1), 3012);
        x.years(1);
        Due.is("p*10+y in YEAR 3 is held", x.thingIs(0, 1), 9999);
    }

    private static void paying() {
        NamedPrices x = new NamedPrices();
        x.person(0, 25, 1);
        x.person(0, 7, 1);
        x.thing(0, 199);
        x.thing(1, 9999);
        x.thing(0, 199);
        x.thing(0, 199);
        x.rule(0, 5);
        Due.is("years(1)", x.years(1), 0);
        Due.is("9 of 199 twice, then what is left", x.personIs(0, 1), 0);
        Due.is("the whole PURSE, if it is less", x.personIs(1, 1), 0);
        Due.is("THE POT", x.town(3), 32);
        x.years(1);
        Due.is("THE POT gets nothing from nobody", x.town(3), 32);
        Due.is("nothing is done with it", x.town(2), 0);
    }

    private static void asking() {
        NamedPrices x = new NamedPrices();
        x.person(0, 0, 11);
        x.person(0, 99, 11);
        x.person(0, 100, 11);
        x.person(0, 500, 11);
        x.thing(0, 100);
        x.rule(0, 0);
        for (int i = 1; i < 4; i++) {
            x.worth(i, 0, 101);
        }
        x.worth(3, 0, 9999);
        Due.is("years(1)", x.years(1), 1);
        Due.is("PURSE is below PRICE; the next has just PRICE", x.thingIs(0, 0), 2);
        Due.is("the buyer's PURSE", x.personIs(2, 1), 0);
        Due.is("the seller's PURSE", x.personIs(0, 1), 100);
        Due.is("no others are asked: two draws", x.count(7), Towns.drawn(1, 2));
        x.worth(0, 0, 112);
        x.worth(1, 0, 9999);
        x.worth(3, 0, 111);
        x.rule(1, 0);
        Due.is("years(1)", x.years(1), 1);
        Due.is("VALUE is PRICE or below: nobody buys", x.thingIs(0, 0), 2);
        Due.is("three draws more", x.count(7), Towns.drawn(1, 5));
        x.keep(0, 1);
        x.worth(3, 0, 9999);
        Due.is("years(1)", x.years(1), 1);
        Due.is("KEPT: nobody is asked", x.count(7), Towns.drawn(1, 5));
        x.keep(0, 0);
        Due.is("years(1)", x.years(1), 2);
        Due.is("not KEPT any more", x.thingIs(0, 0), 3);
    }

    private static void draws() {
        for (int seed = -3; seed <= 3; seed++) {
            for (int p = 0; p <= 7; p++) {
                NamedPrices x = new NamedPrices();
                x.person(0, 0, 11);
                x.person(0, 100, p * 10 + 7);
                x.thing(0, 10);
                x.worth(1, 0, 500);
                int z = seed * 123456789;
                x.seed(z);
                boolean comes = (Towns.drawn(z, 1) >>> 8) % 7 < p;
                String said = "z " + z + ", COMES " + p + " of 7: ";
                Due.is(said + "years(1)", x.years(1), comes ? 1 : 0);
                Due.is(said + "OWNER", x.thingIs(0, 0), comes ? 1 : 0);
                Due.is(said + "one draw", x.count(7), Towns.drawn(z, 1));
            }
        }
    }

    private static void selling() {
        NamedPrices x = new NamedPrices();
        x.person(0, 999950, 11);
        x.person(0, 100, 11);
        x.thing(0, 60);
        x.thing(1, 30);
        x.worth(1, 0, 500);
        x.worth(0, 1, 500);
        x.rule(0, 0);
        x.rule(4, 999);
        Due.is("years(1)", x.years(1), 2);
        // 60 to one who has 999950 (held), then 30 back.
        Due.is("the seller's PURSE is held", x.personIs(0, 1), 999999 - 30);
        Due.is("the buyer's PURSE", x.personIs(1, 1), 100 - 60 + 30);
        Due.is("they changed", x.thingIs(0, 0) * 10 + x.thingIs(1, 0), 10);
    }

    private static void breaking() {
        NamedPrices x = new NamedPrices();
        x.person(0, 500, 11);
        x.person(0, 500, 11);
        x.thing(0, 0);
        x.worth(0, 0, 9999);
        x.worth(1, 0, 9999);
        x.rule(0, 0);
        x.rule(1, 60);
        x.rule(4, 999);
        Due.is("years(1)", x.years(1), 1);
        Due.is("SOUND", x.thingIs(0, 2), 40);
        Due.is("VALUE 9999 * 40 / 100, cut", x.thingIs(0, 4), 3999);
        Due.is("years(1)", x.years(1), 2);
        Due.is("SOUND is 0 at least", x.thingIs(0, 2), 0);
        Due.is("years(3): what is worth nothing moves no more", x.years(3), 2);
    }

    private static void sharing() {
        NamedPrices x = new NamedPrices();
        x.person(0, 100, 1);
        x.person(0, 999990, 1);
        x.person(0, 0, 1);
        x.thing(0, 5000);
        x.rule(0, 1);
        x.rule(2, 1);
        x.years(1);
        Due.is("50 paid, 16 had", x.personIs(0, 1), 66);
        Due.is("16 more, held", x.personIs(1, 1), 999999);
        Due.is("16", x.personIs(2, 1), 16);
        Due.is("the rest stays", x.town(3), 2);
        x.rule(0, 0);
        x.years(1);
        Due.is("nothing to share of 2", x.town(3), 2);
    }

    private static void givingToThePoorest() {
        NamedPrices x = new NamedPrices();
        x.person(0, 100, 1);
        x.person(0, 20, 1);
        x.person(0, 20, 1);
        x.thing(0, 5000);
        x.rule(0, 1);
        x.rule(2, 2);
        x.years(1);
        Due.is("the giver", x.personIs(0, 1), 50);
        Due.is("of like ones the least number", x.personIs(1, 1), 70);
        Due.is("the other poor", x.personIs(2, 1), 20);
        Due.is("all of THE POT", x.town(3), 0);
        x.years(1);
        Due.is("who has given all is the poorest", x.personIs(0, 1), 50);
        Due.is("the other poor still", x.personIs(2, 1), 20);
        x.rule(2, 0);
        x.purse(0, 999999);
        x.purse(1, 999998);
        x.purse(2, 999999);
        x.years(1);
        x.purse(0, 999999);
        x.rule(0, 0);
        x.rule(2, 2);
        x.years(1);
        Due.is("PURSES are held", x.personIs(1, 1), 999999);
        Due.is("what is more is lost", x.town(3), 0);
    }

    private static void alone() {
        for (int pot = 0; pot <= 2; pot++) {
            NamedPrices x = new NamedPrices();
            x.person(0, 100, 1);
            x.thing(0, 1000);
            x.rule(0, 3);
            x.rule(2, pot);
            x.years(1);
            Due.is("POT " + pot + ": PURSE of the only one", x.personIs(0, 1), pot == 0 ? 70 : 100);
            Due.is("POT " + pot + ": THE POT", x.town(3), pot == 0 ? 30 : 0);
        }
    }

    private static void seed() {
        NamedPrices x = new NamedPrices();
        Due.is("seed(MIN)", x.seed(Integer.MIN_VALUE), 1);
        Due.is("seed(-1000000001)", x.seed(-1000000001), Integer.MIN_VALUE);
        Due.is("seed(0): what it was is no ERROR", x.seed(0), -1000000001);
        Due.is("seed: told(1)", x.told(1), 0);
        Due.is("seed: count(7)", x.count(7), 0);
    }
}
