/** A YEAR step by step: in which order, by whom as they are then, and just at each bound. */
public final class YearStepsTest {
    public static void main(String[] args) {
        valueAndPrice();
        purseAndPrice();
        chances();
        ownersHaveNoDraw();
        noOthersAreAsked();
        onceAYear();
        namedAheadOfAll();
        namedByPartAndYears();
        paidByThePurse();
        paidAheadOfSales();
        soldByNumbers();
        keptOnes();
        mendedByWhoOwnsThen();
        purseAndMends();
        mendingText();
        potOfTheSameYear();
        mendedAheadOfThePot();
        ownThings();
        poorestOfTheEnd();
        yearsAndMoves();
        Due.end();
    }

    /** Number 0 owns a THING for so much; 1 surely comes, has a PURSE and sees a VALUE. */
    private static NamedPrices sale(int price, int value, int purse) {
        NamedPrices x = new NamedPrices();
        x.person(0, 0, 11);
        x.person(0, purse, 11);
        x.thing(0, price);
        x.worth(1, 0, value);
        x.rule(0, 0);
        x.rule(4, 999);
        return x;
    }

    private static void valueAndPrice() {
        int[][] runs = {{0, 0, 0}, {0, 1, 1}, {50, 49, 0}, {50, 50, 0}, {50, 51, 1},
            {9998, 9999, 1}, {9999, 9999, 0}};
        for (int[] run : runs) {
            NamedPrices x = sale(run[0], run[1], 99999);
            String said = "PRICE " + run[0] + ", VALUE " + run[1];
            Due.is(said + ": firm(1, 0)", x.firm(1, 0), run[2]);
            Due.is(said + ": taken(0, .., 0)", x.taken(0, run[0], 0), run[2]);
            Due.is(said + ": years(1)", x.years(1), run[2]);
            Due.is(said + ": OWNER", x.thingIs(0, 0), run[2]);
        }
        // What counts is VALUE, not WORTH: 99 of 100 after it has moved once.
        NamedPrices x = sale(0, 9000, 99999);
        x.rule(1, 1);
        x.worth(0, 0, 9000);
        x.years(1);
        x.purse(0, 99999);
        x.price(0, 8910);
        Due.is("VALUE 8910, PRICE 8910", x.years(1), 1);
        x.price(0, 8909);
        Due.is("VALUE 8910, PRICE 8909", x.years(1), 2);
    }

    private static void purseAndPrice() {
        int[][] runs = {{0, 0, 1}, {1, 0, 0}, {1, 1, 1}, {70, 69, 0}, {70, 70, 1}, {70, 71, 1}};
        for (int[] run : runs) {
            NamedPrices x = sale(run[0], 500, run[1]);
            String said = "PRICE " + run[0] + ", PURSE " + run[1];
            Due.is(said + ": firm(1, 0)", x.firm(1, 0), run[2]);
            Due.is(said + ": taken(0, .., 0) whatever the PURSE", x.taken(0, run[0], 0), 1);
            Due.is(said + ": years(1)", x.years(1), run[2]);
            Due.is(said + ": the buyer's", x.personIs(1, 1), run[1] - run[2] * run[0]);
            Due.is(said + ": the seller's", x.personIs(0, 1), run[2] * run[0]);
        }
    }

    /** p 0 never comes, p as q surely. */
    private static void chances() {
        for (int q = 1; q <= 9; q++) {
            for (int seed = 0; seed < 9; seed++) {
                NamedPrices x = new NamedPrices();
                x.person(0, 0, 11);
                x.person(0, 0, q);
                x.person(0, 0, 11 * q);
                x.thing(0, 0);
                x.worth(1, 0, 9);
                x.worth(2, 0, 9);
                x.seed(seed * 1000000007);
                Due.is("0 of " + q + " doesn't come, " + q + " of " + q + " does", x.years(1), 1);
                Due.is("OWNER", x.thingIs(0, 0), 2);
            }
        }
    }

    private static void ownersHaveNoDraw() {
        for (int owner = 0; owner < 4; owner++) {
            NamedPrices x = new NamedPrices();
            for (int i = 0; i < 4; i++) {
                x.person(0, 99, 11);
            }
            x.thing(owner, 5);
            x.worth(owner, 0, 9999);
            Due.is("OWNER " + owner + " doesn't buy", x.years(1), 0);
            Due.is("the three others have a draw each", x.count(7), Towns.drawn(1, 3));
        }
    }

    private static void noOthersAreAsked() {
        for (int buyer = 1; buyer < 5; buyer++) {
            NamedPrices x = new NamedPrices();
            for (int i = 0; i < 5; i++) {
                x.person(0, 99, 11);
            }
            x.thing(0, 5);
            x.rule(4, 999);
            for (int i = buyer; i < 5; i++) {
                x.worth(i, 0, 100 * i);
            }
            Due.is("the first who buys", x.years(1), 1);
            Due.is("OWNER", x.thingIs(0, 0), buyer);
            Due.is("draws up to " + buyer + "'s", x.count(7), Towns.drawn(1, buyer));
            Due.is("the next one's PURSE", x.personIs(4, 1), buyer == 4 ? 94 : 99);
        }
    }

    private static void onceAYear() {
        NamedPrices x = new NamedPrices();
        for (int i = 0; i < 3; i++) {
            x.person(0, 99, 11);
            x.thing(0, 5);
        }
        for (int i = 0; i < 9; i++) {
            x.worth(i / 3, i % 3, 100);
        }
        x.rule(0, 0);
        x.rule(1, 0);
        Due.is("each THING once", x.years(1), 3);
        Due.is("all come to 1", x.personIs(1, 3), 3);
        Due.is("each THING once", x.years(1), 6);
        Due.is("all come back to 0", x.personIs(0, 3), 3);
    }

    /** All are named by what is so ahead of the YEAR's own sales. */
    private static void namedAheadOfAll() {
        NamedPrices x = new NamedPrices();
        x.person(1, 0, 11);
        x.person(3, 999, 11);
        x.person(4, 999, 9);
        x.thing(0, 0);
        x.thing(2, 0);
        x.worth(0, 0, 50);
        x.worth(1, 0, 81);
        x.worth(0, 1, 7);
        x.worth(1, 1, 20);
        x.rule(0, 0);
        x.rule(1, 10);
        Due.is("years(1)", x.years(1), 2);
        Due.is("by the OWNER ahead, TRUE, not LOW", x.thingIs(0, 1), 50);
        Due.is("by the OWNER ahead, SPITE, not LOW", x.thingIs(1, 1), 19);
        Due.is("OWNER", x.thingIs(0, 0), 1);
        Due.is("OWNER", x.thingIs(1, 0), 1);
        Due.is("named(0) now: half of 90 of 81", x.named(0), 36);
        Due.is("years(1)", x.years(1), 3);
        Due.is("LOW now", x.thingIs(0, 1), 36);
        Due.is("LOW now", x.thingIs(1, 1), 9);
    }

    private static void namedByPartAndYears() {
        NamedPrices x = new NamedPrices();
        x.person(6, 0, 11);
        x.person(0, 0, 12);
        x.person(0, 0, 26);
        x.thing(0, 10);
        x.worth(0, 0, 40);
        x.worth(1, 0, 50);
        x.worth(2, 0, 80);
        // It doesn't matter for the BEST PRICE, and it stays with its OWNER.
        x.keep(0, 1);
        int[] parts = {5, 40, 99, 0, 10};
        int[] due = {79, 49, 0, 79, 79};
        for (int i = 0; i < parts.length; i++) {
            x.rule(0, parts[i]);
            x.rule(1, 99 - parts[i]);
            Due.is("PART " + parts[i] + ": BEST named(0)", x.named(0), due[i]);
            Due.is("PART " + parts[i] + ": best(0)", x.best(0), due[i]);
            x.years(1);
            Due.is("PART " + parts[i] + ": in a YEAR", x.thingIs(0, 1), due[i]);
        }
        x.become(0, 5);
        Due.feed(x, "100*r+y");
        x.text(0);
        for (int y = 5; y < 8; y++) {
            Due.is("TOLD: named(0)", x.named(0), 1000 + y);
            x.years(1);
            Due.is("TOLD: YEARS so far, ahead of this one", x.thingIs(0, 1), 1000 + y);
        }
    }

    private static void paidByThePurse() {
        int[][] runs = {{49, 49, 0}, {50, 50, 0}, {51, 50, 1}, {0, 0, 0}, {1, 1, 0}};
        for (int[] run : runs) {
            NamedPrices x = sale(500, 0, 0);
            x.rule(0, 10);
            x.purse(0, run[0]);
            x.years(1);
            Due.is("50 due of " + run[0] + ": THE POT", x.town(3), run[1]);
            Due.is("50 due of " + run[0] + ": PURSE", x.personIs(0, 1), run[2]);
        }
        NamedPrices x = new NamedPrices();
        x.person(0, 120, 11);
        for (int i = 0; i < 4; i++) {
            x.thing(0, 500);
        }
        x.rule(0, 10);
        Due.is("nobody else: years(1)", x.years(1), 0);
        Due.is("50, 50, 20, 0", x.town(3), 120);
        Due.is("PURSE", x.personIs(0, 1), 0);
    }

    /** Who paid can lack what they would buy with; who sells has paid already. */
    private static void paidAheadOfSales() {
        NamedPrices x = new NamedPrices();
        x.person(0, 10, 11);
        x.person(0, 100, 11);
        x.thing(0, 100);
        x.thing(1, 100);
        x.worth(1, 0, 999);
        x.rule(0, 10);
        Due.is("10 paid, 90 left: years(1)", x.years(1), 0);
        Due.is("THE POT", x.town(3), 20);
        Due.is("the PURSE of 1", x.personIs(1, 1), 90);
        x.price(0, 80);
        Due.is("8 due of 0's, 10 of 1's: years(1)", x.years(1), 1);
        Due.is("THE POT: the former OWNER's PURSE was empty", x.town(3), 30);
        Due.is("the PURSE of 0", x.personIs(0, 1), 80);
        Due.is("the PURSE of 1", x.personIs(1, 1), 0);
    }

    /** What one gets for a THING can buy one further on, not one ahead. */
    private static void soldByNumbers() {
        NamedPrices x = new NamedPrices();
        x.person(0, 0, 11);
        x.person(0, 60, 11);
        x.thing(1, 60);
        x.thing(0, 60);
        x.thing(1, 60);
        x.worth(0, 0, 999);
        x.worth(1, 1, 999);
        x.worth(0, 2, 999);
        x.rule(0, 0);
        Due.is("the second and the third", x.years(1), 2);
        Due.is("the first: 0 had nothing then", x.thingIs(0, 0), 1);
        Due.is("the second", x.thingIs(1, 0), 1);
        Due.is("the third: by what the second brought", x.thingIs(2, 0), 0);
    }

    /** What is KEPT isn't sold, but named, paid for and mended. */
    private static void keptOnes() {
        NamedPrices x = sale(0, 9999, 9999);
        x.rule(1, 30);
        Due.is("it moves", x.years(1), 1);
        x.worth(0, 0, 9999);
        x.become(1, 2);
        x.rule(0, 1);
        x.rule(4, 7);
        x.keep(0, 1);
        int z = x.count(7);
        Due.is("KEPT: firm(0, 0)", x.firm(0, 0), 0);
        Due.is("KEPT: years(1)", x.years(1), 1);
        Due.is("KEPT: no draw was had", x.count(7), z);
        Due.is("KEPT: named HIGH", x.thingIs(0, 1), 9999);
        Due.is("KEPT: paid for", x.town(3), 99);
        Due.is("KEPT: mended", x.thingIs(0, 2), 80);
        Due.is("KEPT: PURSE", x.personIs(1, 1), 9999 - 99 - 7);
        Due.is("KEPT: it stays so", x.thingIs(0, 3), 1);
        x.keep(0, 0);
        x.become(1, 0);
        x.price(0, 0);
        Due.is("not KEPT: years(1)", x.years(1), 2);
        Due.is("what moves isn't KEPT", x.thingIs(0, 3), 0);
    }

    private static void mendedByWhoOwnsThen() {
        NamedPrices x = sale(10, 900, 40);
        x.rule(1, 50);
        x.rule(4, 30);
        Due.is("years(1)", x.years(1), 1);
        Due.is("mended by the buyer, of what is left", x.thingIs(0, 2), 60);
        Due.is("the buyer's PURSE", x.personIs(1, 1), 0);
        Due.is("the seller's PURSE", x.personIs(0, 1), 10);
        NamedPrices y = sale(11, 900, 40);
        y.rule(1, 50);
        y.rule(4, 30);
        y.purse(0, 900);
        Due.is("years(1)", y.years(1), 1);
        Due.is("29 are left: not mended", y.thingIs(0, 2), 50);
    }

    private static void purseAndMends() {
        int[][] runs = {{29, 30, 0}, {30, 30, 1}, {31, 30, 1}, {0, 0, 1}, {0, 1, 0}, {1, 1, 1},
            {998, 999, 0}, {999, 999, 1}};
        for (int[] run : runs) {
            NamedPrices x = sale(0, 9999, 0);
            x.rule(1, 40);
            Due.feed(x, "s<100");
            x.text(1);
            x.years(1);
            x.keep(0, 1);
            x.purse(1, run[0]);
            x.rule(4, run[1]);
            String said = "PURSE " + run[0] + ", MENDS " + run[1];
            Due.is(said + ": mended(0)", x.mended(0), run[2]);
            x.years(1);
            Due.is(said + ": SOUND", x.thingIs(0, 2), 60 + 10 * run[2]);
            Due.is(said + ": PURSE", x.personIs(1, 1), run[0] - run[1] * run[2]);
        }
    }

    /** MENDING is so if it isn't 0; its NAMES are as they are then, THING by THING. */
    private static void mendingText() {
        NamedPrices x = new NamedPrices();
        x.person(0, 0, 11);
        x.person(0, 100, 11);
        for (int i = 0; i < 3; i++) {
            x.thing(0, 0);
            x.worth(1, i, 10 * i + 10);
        }
        x.rule(0, 0);
        x.rule(1, 40);
        x.rule(4, 20);
        Due.feed(x, "u>60");
        x.text(1);
        Due.is("years(1)", x.years(1), 3);
        int[] sounds = {70, 70, 60};
        for (int i = 0; i < 3; i++) {
            Due.is("THING " + i + ": u is 100, 80, 60", x.thingIs(i, 2), sounds[i]);
        }
        String[] texts = {"0-1", "s-70", "0", "8192*8192*32", "v-14", "1-r"};
        int[][] due = {{1, 1, 1}, {0, 0, 1}, {0, 0, 0}, {1, 1, 1}, {1, 0, 1}, {1, 1, 1}};
        x.purse(1, 60);
        for (int k = 0; k < texts.length; k++) {
            Due.feed(x, texts[k]);
            Due.is("text(1) of " + texts[k], x.text(1), 1);
            for (int i = 0; i < 3; i++) {
                Due.is("mended(" + i + ") by " + texts[k], x.mended(i), due[k][i]);
            }
        }
    }

    private static void potOfTheSameYear() {
        NamedPrices x = sale(1000, 0, 0);
        x.purse(0, 100);
        x.rule(0, 5);
        x.rule(2, 1);
        x.years(1);
        Due.is("50 paid, 25 had", x.personIs(0, 1), 75);
        Due.is("25 had", x.personIs(1, 1), 25);
        Due.is("nothing is left", x.town(3), 0);
        x.rule(2, 2);
        x.years(1);
        Due.is("50 paid, 25 left: who paid is not above who has 25", x.personIs(0, 1), 75);
        Due.is("25 still", x.personIs(1, 1), 25);
        x.rule(2, 0);
        x.years(2);
        Due.is("nothing is done with it", x.town(3), 75);
        Due.is("the whole PURSE was paid", x.personIs(0, 1), 0);
    }

    /** What one gets of THE POT mends nothing in that YEAR; what one has mended makes poorer. */
    private static void mendedAheadOfThePot() {
        for (int pot = 1; pot <= 2; pot++) {
            NamedPrices x = sale(0, 9000, 0);
            x.rule(1, 40);
            Due.is("years(1)", x.years(1), 1);
            x.keep(0, 1);
            x.price(0, 200);
            x.rule(0, 10);
            x.rule(2, pot);
            x.rule(4, 30);
            x.purse(0, 50);
            x.purse(1, 45);
            x.years(1);
            String said = "20 of 45 paid, POT " + pot + ": ";
            Due.is(said + "25 don't mend it", x.thingIs(0, 2), 60);
            Due.is(said + "what is had then", x.personIs(1, 1), pot == 1 ? 35 : 45);
            Due.is(said + "the other's", x.personIs(0, 1), pot == 1 ? 60 : 50);
        }
        NamedPrices x = sale(0, 9000, 0);
        x.rule(1, 40);
        x.years(1);
        x.keep(0, 1);
        x.price(0, 200);
        x.rule(0, 10);
        x.rule(2, 2);
        x.rule(4, 30);
        x.purse(0, 29);
        x.purse(1, 79);
        x.years(1);
        Due.is("mended", x.thingIs(0, 2), 70);
        Due.is("20 paid, 30 spent, 29 left, as the other has", x.personIs(0, 1), 49);
        Due.is("of like ones the least number", x.personIs(1, 1), 29);
        x.purse(0, 29);
        x.purse(1, 78);
        x.years(1);
        Due.is("20 paid, 30 spent, 28 left: the poorest", x.personIs(1, 1), 48);
        Due.is("the other's", x.personIs(0, 1), 29);
    }

    /** What is one's own isn't bought, by a FIRM or in a YEAR, however dear it is to them. */
    private static void ownThings() {
        NamedPrices x = new NamedPrices();
        x.person(0, 500, 11);
        x.person(0, 500, 9);
        x.thing(0, 10);
        x.thing(1, 20);
        x.thing(0, 30);
        for (int i = 0; i < 6; i++) {
            x.worth(i / 3, i % 3, 100);
        }
        Due.is("firm(0, 0)", x.firm(0, 0), 1);
        Due.is("firm(0, 1)", x.firm(0, 1), 80);
        Due.is("firm(0, 2)", x.firm(0, 2), 2);
        Due.is("firm(1, 0)", x.firm(1, 0), 2);
        Due.is("firm(1, 1)", x.firm(1, 1), 160);
        Due.is("firm(1, 2)", x.firm(1, 2), 5);
        Due.is("taken(0, 10, 0): the OWNER doesn't come", x.taken(0, 10, 0), 0);
        Due.is("years(1)", x.years(1), 1);
        Due.is("all are 0's", x.personIs(0, 3), 3);
        Due.is("firm(0, 2)", x.firm(0, 2), 0);
    }

    /** The poorest is who is so after all that was paid, sold and mended. */
    private static void poorestOfTheEnd() {
        NamedPrices x = new NamedPrices();
        x.person(0, 100, 9);
        x.person(0, 90, 9);
        x.person(0, 95, 9);
        x.thing(0, 300);
        x.rule(0, 5);
        x.rule(2, 2);
        x.years(1);
        Due.is("100 less 15 is the least", x.personIs(0, 1), 100);
        x.purse(1, 85);
        x.years(1);
        Due.is("85 as well: of like ones the least number", x.personIs(0, 1), 100);
        Due.is("the other's", x.personIs(1, 1), 85);
        x.purse(1, 84);
        x.years(1);
        Due.is("84 is less", x.personIs(1, 1), 84 + 15);
        Due.is("who paid", x.personIs(0, 1), 85);
        x.purse(0, 200);
        x.purse(1, 150);
        x.purse(2, 120);
        x.years(1);
        Due.is("the last can be the poorest", x.personIs(2, 1), 135);
    }

    private static void yearsAndMoves() {
        NamedPrices x = sale(0, 900, 0);
        x.worth(0, 0, 900);
        x.rule(1, 0);
        for (int n = 1; n <= 5; n++) {
            Due.is("years(1): MOVES so far", x.years(1), n);
            Due.is("count(3)", x.count(3), n);
            Due.is("town(4)", x.town(4), n);
            Due.is("OWNER", x.thingIs(0, 0), n % 2);
        }
        Due.is("years(40): MOVES so far", x.years(40), 45);
        Due.is("count(3)", x.count(3), 45);
        Due.is("then(40, 4)", x.then(40, 4), 85);
        Due.is("then(0, 4)", x.then(0, 4), 45);
        Due.is("whose(1, 0)", x.whose(1, 0), 0);
        Due.is("whose(0, 0)", x.whose(0, 0), 1);
        Due.is("whose(40, 0)", x.whose(40, 0), 1);
    }
}
