/** TAKEN, GAIN, BEST PRICE and RIGHT just at their bounds. */
public final class PriceEdgesTest {
    public static void main(String[] args) {
        aboveThatPrice();
        greatestPrices();
        neverAndSurely();
        whateverElse();
        eachInTurn();
        leastOfLikeOnes();
        leastOfAllByAHair();
        rightAtTheEnds();
        rightOfCutValues();
        Due.end();
    }

    /** Number 0 owns a THING; 1, 2, .. come as told and see VALUES. */
    private static NamedPrices seen(int own, int... chancesAndValues) {
        NamedPrices x = new NamedPrices();
        x.person(0, 0, 11);
        x.thing(0, 0);
        x.worth(0, 0, own);
        for (int i = 0; i < chancesAndValues.length; i += 2) {
            int one = x.person(0, 0, chancesAndValues[i]);
            x.worth(one, 0, chancesAndValues[i + 1]);
        }
        return x;
    }

    private static void taken(NamedPrices x, int price, int above, int below) {
        Due.is("taken(0, " + price + ", 0)", x.taken(0, price, 0), above);
        Due.is("taken(0, " + price + ", 1)", x.taken(0, price, 1), below);
    }

    private static void gain(NamedPrices x, int price, long above, long below) {
        Due.is("gain(0, " + price + ", 0)", x.gain(0, price, 0), above);
        Due.is("gain(0, " + price + ", 1)", x.gain(0, price, 1), below);
    }

    private static void aboveThatPrice() {
        NamedPrices x = seen(0, 13, 0, 23, 1, 12, 2);
        taken(x, 0, 5, 6);
        taken(x, 1, 1, 2);
        taken(x, 2, 0, 1);
        x.worth(1, 0, 1);
        taken(x, 0, 8, 9);
        x.worth(2, 0, 0);
        taken(x, 0, 2, 3);
    }

    private static void greatestPrices() {
        NamedPrices x = seen(9999, 11, 9999);
        x.rule(0, 0);
        taken(x, 9998, 1, 1);
        taken(x, 9999, 0, 1);
        gain(x, 9998, 9998, 1);
        gain(x, 9999, 9999, 1);
        Due.is("9999 is best: best(0)", x.best(0), 9999);
        Due.is("9999 is best: right(0)", x.right(0), 0);
        x.worth(0, 0, 9998);
        Due.is("9998 is as much, and less: best(0)", x.best(0), 9998);
        Due.is("9998 is VALUE, too: right(0)", x.right(0), 0);
        x.worth(0, 0, 9997);
        Due.is("9998: best(0)", x.best(0), 9998);
        Due.is("9998 is not VALUE: right(0)", x.right(0), Due.NONE);
        x.rule(0, 99);
        gain(x, 9999, 9997L * 100 - 99 * 9999, 100);
        gain(x, 9998, 4999, 50);
        Due.is("PART 99: best(0)", x.best(0), 9998);
    }

    private static void neverAndSurely() {
        NamedPrices x = seen(30, 9, 9999, 5, 70);
        taken(x, 0, 0, 1);
        gain(x, 0, 30, 1);
        Due.is("nobody ever comes: best(0)", x.best(0), 0);
        NamedPrices y = seen(30, 9, 9999, 55, 70, 12, 90);
        taken(y, 69, 1, 1);
        taken(y, 70, 1, 2);
        taken(y, 90, 0, 1);
        taken(y, 9998, 0, 1);
        gain(y, 69, 69 * 20 - 69, 20);
        Due.is("one surely comes: best(0)", y.best(0), 69);
        NamedPrices z = seen(0, 89, 9999, 89, 9999, 89, 9999, 89, 9999, 89, 9999);
        taken(z, 9998, 59048, 59049);
        z.rule(0, 1);
        gain(z, 9998, 4999L * (100 * 59048L - 59049), 2952450);
    }

    /** KEPT, PURSES, KINDS, PRICE, BONUSES don't matter. */
    private static void whateverElse() {
        NamedPrices x = seen(40, 12, 50, 26, 80);
        for (int turn = 0; turn < 7; turn++) {
            taken(x, 49, 2, 3);
            gain(x, 49, 871, 20);
            Due.is("turn " + turn + ": best(0)", x.best(0), 79);
            Due.is("turn " + turn + ": right(0)", x.right(0), Due.NONE);
            x.keep(0, turn % 2);
            x.purse(1, turn * 7);
            x.purse(2, 999999 - turn);
            x.become(0, turn);
            x.become(1, 6 - turn);
            x.price(0, turn * 1666);
            x.thing(1, turn);
            x.pair(0, x.count(1) - 1, 9999);
            x.rule(1, 9 * turn);
            x.rule(3, turn);
        }
    }

    /** Of six, each in turn owns it, and each of the others in turn is who sees most and comes. */
    private static void eachInTurn() {
        for (int turn = 0; turn < 36; turn++) {
            int owner = turn / 6;
            int keen = turn % 6;
            if (owner == keen) {
                continue;
            }
            NamedPrices x = new NamedPrices();
            for (int i = 0; i < 6; i++) {
                x.person(0, 0, i == keen ? 11 : 1);
            }
            x.thing(owner, 0);
            for (int i = 0; i < 6; i++) {
                x.worth(i, 0, i == keen ? 500 : i == owner ? 90 : 400);
            }
            String said = "OWNER " + owner + ", " + keen + " sees most: ";
            taken(x, 499, 1, 1);
            taken(x, 500, 0, 1);
            Due.is(said + "best(0)", x.best(0), 499);
            Due.is(said + "thingIs(0, 5)", x.thingIs(0, 5), keen);
            x.become(owner, 4);
            Due.is(said + "SPITE: named(0)", x.named(0), 499);
            x.become(owner, 6);
            Due.is(said + "BEST: named(0)", x.named(0), 499);
            x.become(owner, 5);
            Due.feed(x, "m");
            x.text(0);
            Due.is(said + "TOLD m: named(0)", x.named(0), 500);
            x.worth(owner, 0, 501);
            Due.is(said + "but the OWNER: named(0)", x.named(0), 500);
            Due.is(said + "but the OWNER: thingIs(0, 5)", x.thingIs(0, 5), owner);
        }
    }

    private static void leastOfLikeOnes() {
        NamedPrices x = seen(0, 11, 11, 12, 21);
        x.rule(0, 0);
        // At 10 it is surely sold, at 20 to every second one.
        gain(x, 10, 10, 1);
        gain(x, 20, 10, 1);
        Due.is("the less of two: best(0)", x.best(0), 10);
        x.worth(2, 0, 23);
        Due.is("11 for 22 by two: best(0)", x.best(0), 22);
        NamedPrices y = seen(0, 12, 21, 11, 11);
        y.rule(0, 0);
        Due.is("the other one first: best(0)", y.best(0), 10);
        NamedPrices z = seen(0, 12, 21);
        z.rule(0, 50);
        gain(z, 20, 0, 1);
        Due.is("0 is as good: best(0)", z.best(0), 0);
        z.rule(0, 49);
        Due.is("a hundredth less: best(0)", z.best(0), 20);
        NamedPrices w = seen(60, 11, 60, 11, 61, 11, 50);
        w.rule(0, 0);
        // Sold at 60 it is its worth; so it is unsold at 61 and above, and at 60 that is least.
        Due.is("sold or not: best(0)", w.best(0), 60);
    }

    /** Each other price that may be best has a little less GAIN than 0, and 1 has less than they. */
    private static void leastOfAllByAHair() {
        NamedPrices x = seen(887, 19, 100);
        x.rule(0, 99);
        gain(x, 0, 7096, 9);
        gain(x, 100, 788, 1);
        Due.is("0 by four ninths: best(0)", x.best(0), 0);
        x.worth(0, 0, 891);
        gain(x, 0, 792, 1);
        gain(x, 100, 792, 1);
        Due.is("0 as good: best(0)", x.best(0), 0);
        x.worth(0, 0, 892);
        Due.is("100 by a ninth: best(0)", x.best(0), 100);
    }

    private static void rightAtTheEnds() {
        Due.is("0: one less than what another sees", seen(49, 11, 50).right(0), 0);
        Due.is("0: as much as another sees", seen(50, 11, 50).right(0), 0);
        Due.is("none: less than that", seen(48, 11, 50).right(0), Due.NONE);
        Due.is("none: more than that", seen(51, 11, 50).right(0), Due.NONE);
        Due.is("0 is worth 0: from where it is best", seen(0, 12, 50).right(0), 50);
        Due.is("0 is worth 0: never, where one surely comes", seen(0, 11, 50).right(0), Due.NONE);
        Due.is("0 is worth 0: 1 is seen", seen(0, 11, 1).right(0), 0);
        // 98 of 99 can't be told; 80 of 81 are more than 98 hundredths, 728 of 729 more than 99.
        Due.is("99", seen(0, 89, 50, 89, 50).right(0), 99);
        Due.is("none, not even 99", seen(0, 89, 50, 89, 50, 89, 50).right(0), Due.NONE);
        NamedPrices x = seen(0, 12, 50);
        x.rule(0, 77);
        Due.is("whatever PART is", x.right(0), 50);
        Due.is("PART stays", x.rule(0, 5), 77);
    }

    /** By VALUES, as they are cut, not by WORTHS. */
    private static void rightOfCutValues() {
        NamedPrices x = new NamedPrices();
        x.person(0, 0, 11);
        x.person(0, 0, 11);
        x.thing(0, 0);
        x.worth(1, 0, 101);
        x.rule(1, 1);
        x.rule(4, 999);
        x.years(1);
        Due.is("SOUND", x.thingIs(0, 2), 99);
        Due.is("VALUE to 1, who has it", x.thingIs(0, 4), 99);
        x.worth(0, 0, 102);
        taken(x, 99, 1, 1);
        taken(x, 100, 0, 1);
        Due.is("VALUE to 0 is 100, one above: right(0)", x.right(0), 0);
        x.worth(0, 0, 103);
        Due.is("101: right(0)", x.right(0), Due.NONE);
    }
}
