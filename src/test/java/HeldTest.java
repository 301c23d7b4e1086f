/** What is held within bounds, and what is cut: just at the bound, one below it, one above it. */
public final class HeldTest {
    private static final int MOST_POT = 1999999999;

    public static void main(String[] args) {
        names();
        namesOfYear();
        pursesOfSellers();
        pursesOfPot();
        thePot();
        soundsBroken();
        soundsMended();
        values();
        pairsSound();
        paid();
        mendingByTen();
        shared();
        voices();
        Due.end();
    }

    /** Two of PEOPLE; the first, of a KIND, owns a THING that is worth so much to each of them. */
    private static NamedPrices owned(int kind, int worth, int other) {
        NamedPrices x = new NamedPrices();
        x.person(kind, 0, 11);
        x.person(0, 0, 11);
        x.thing(0, 33);
        x.worth(0, 0, worth);
        x.worth(1, 0, other);
        return x;
    }

    private static void named(String said, NamedPrices x, int due) {
        Due.is(said, x.named(0), due);
        x.years(1);
        Due.is(said + ", in a YEAR", x.thingIs(0, 1), due);
    }

    private static void names() {
        named("HIGH of 0", owned(2, 0, 0), 0);
        named("HIGH of 4999", owned(2, 4999, 0), 9998);
        named("HIGH of 5000, held", owned(2, 5000, 0), 9999);
        named("HIGH of 9999, held", owned(2, 9999, 0), 9999);
        named("LOW of 0", owned(3, 0, 0), 0);
        named("LOW of 1, cut", owned(3, 1, 0), 0);
        named("LOW of 2", owned(3, 2, 0), 1);
        named("LOW of 3, cut", owned(3, 3, 0), 1);
        named("LOW of 9999, cut", owned(3, 9999, 0), 4999);
        named("SPITE of 0, held", owned(4, 9, 0), 0);
        named("SPITE of 1", owned(4, 9, 1), 0);
        named("SPITE of 2", owned(4, 9, 2), 1);
        named("SPITE of 9999", owned(4, 9, 9999), 9998);
        named("TRUE of 0", owned(1, 0, 9), 0);
        named("TRUE of 9999", owned(1, 9999, 9), 9999);
        named("TOLD without a TEXT", owned(5, 9999, 9), 9999);
    }

    private static void namesOfYear() {
        String[] texts = {"0-1", "0", "1", "9998", "9999", "9999+1", "8192*8192*32",
            "8192*8192*32-1", "0-9999*9999", "9999*9999"};
        int[] due = {0, 0, 1, 9998, 9999, 9999, 0, 9999, 0, 9999};
        for (int i = 0; i < texts.length; i++) {
            NamedPrices x = owned(5, 44, 0);
            Due.feed(x, texts[i]);
            Due.is("text(0) of " + texts[i], x.text(0), 1);
            named("TOLD " + texts[i], x, due[i]);
        }
    }

    /** One sells for so much; what is above 999999 then is lost. */
    private static void pursesOfSellers() {
        int[][] runs = {{0, 60, 60}, {999938, 60, 999998}, {999939, 60, 999999},
            {999940, 60, 999999}, {999999, 60, 999999}, {999999, 0, 999999}, {999999, 9998, 999999}};
        for (int[] run : runs) {
            NamedPrices x = owned(0, 0, 9999);
            x.rule(0, 0);
            x.rule(4, 999);
            x.price(0, run[1]);
            x.purse(0, run[0]);
            x.purse(1, 9999);
            Due.is("years(1)", x.years(1), 1);
            String said = "PURSE " + run[0] + ", sold for " + run[1];
            Due.is(said, x.personIs(0, 1), run[2]);
            Due.is(said + ": the buyer's", x.personIs(1, 1), 9999 - run[1]);
        }
    }

    /** THE POT of 100 comes to those who had so much. */
    private static void pursesOfPot() {
        int[] had = {999948, 999949, 999950, 999999, 0};
        int[] shared = {999998, 999999, 999999, 999999, 50};
        for (int i = 0; i < had.length; i++) {
            NamedPrices x = new NamedPrices();
            x.person(0, 0, 11);
            x.person(0, had[i], 11);
            Towns.fillPot(x, 100);
            x.purse(0, had[i]);
            x.rule(2, 1);
            x.years(1);
            Due.is("shared evenly, had " + had[i], x.personIs(0, 1), shared[i]);
            Due.is("shared evenly, had " + had[i], x.personIs(1, 1), shared[i]);
            Due.is("what is more is lost", x.town(3), 0);
        }
        int[] poor = {999898, 999899, 999900, 999999, 0};
        int[] given = {999998, 999999, 999999, 999999, 100};
        for (int i = 0; i < poor.length; i++) {
            NamedPrices x = new NamedPrices();
            x.person(0, 0, 11);
            x.person(0, poor[i], 11);
            Towns.fillPot(x, 100);
            x.purse(0, 999999);
            x.rule(2, 2);
            x.years(1);
            int first = poor[i] == 999999 ? 0 : 1;
            Due.is("given to the poorest, had " + poor[i], x.personIs(first, 1), given[i]);
            Due.is("the other's", x.personIs(1 - first, 1), 999999);
            Due.is("what is more is lost", x.town(3), 0);
        }
    }

    /** Its bound can't be reached in 512 calls, so that it is set from inside. */
    private static void thePot() {
        int[] had = {0, MOST_POT - 51, MOST_POT - 50, MOST_POT - 49, MOST_POT};
        for (int pot : had) {
            NamedPrices x = owned(0, 0, 0);
            x.purse(0, 70);
            x.price(0, 1000);
            if (!Inside.setPot(x, pot)) {
                return;
            }
            x.years(1);
            Due.is("THE POT " + pot + ", and 50", x.town(3), Math.min(MOST_POT, pot + 50));
            Due.is("what is paid all the same", x.personIs(0, 1), 20);
        }
    }

    private static NamedPrices moved(int breaks, int times) {
        NamedPrices x = owned(0, 9999, 9999);
        x.price(0, 0);
        x.rule(1, breaks);
        x.rule(4, 999);
        for (int i = 0; i < times; i++) {
            x.years(1);
        }
        return x;
    }

    private static void soundsBroken() {
        int[][] runs = {{0, 1, 100}, {1, 1, 99}, {99, 1, 1}, {50, 2, 0}, {49, 2, 2}, {51, 2, 0},
            {33, 3, 1}, {34, 3, 0}, {99, 2, 0}, {20, 5, 0}, {20, 4, 20}};
        for (int[] run : runs) {
            NamedPrices x = moved(run[0], run[1]);
            String said = "BREAKS " + run[0] + ", moved " + run[1] + " times";
            Due.is(said + ": MOVES", x.town(4), run[1]);
            Due.is(said + ": SOUND", x.thingIs(0, 2), run[2]);
            Due.is(said + ": VALUE", x.thingIs(0, 4), 9999 * run[2] / 100);
        }
    }

    private static void soundsMended() {
        int[][] runs = {{1, 100}, {9, 100}, {10, 100}, {11, 99}, {12, 98}, {99, 11}};
        for (int[] run : runs) {
            NamedPrices x = moved(run[0], 1);
            x.keep(0, 1);
            x.rule(4, 0);
            Due.is("SOUND " + (100 - run[0]) + ": mended(0)", x.mended(0), 1);
            x.years(1);
            Due.is("SOUND " + (100 - run[0]) + ", mended", x.thingIs(0, 2), run[1]);
        }
        NamedPrices x = moved(50, 2);
        x.keep(0, 1);
        x.rule(4, 0);
        Due.is("SOUND 0, VALUE 0, for nothing: mended(0)", x.mended(0), 1);
        x.years(10);
        Due.is("ten times", x.thingIs(0, 2), 100);
        Due.is("SOUND 100: mended(0)", x.mended(0), 0);
        x.years(1);
        Due.is("not above", x.thingIs(0, 2), 100);
    }

    private static void values() {
        int[][] runs = {{1, 1, 0}, {100, 1, 99}, {101, 1, 99}, {102, 1, 100}, {9999, 1, 9899},
            {9999, 99, 99}, {99, 99, 0}, {100, 99, 1}, {3, 50, 1}, {1, 50, 0}, {0, 7, 0}};
        for (int[] run : runs) {
            NamedPrices x = moved(run[1], 1);
            x.worth(1, 0, run[0]);
            Due.is("WORTH " + run[0] + ", BREAKS " + run[1] + ": VALUE", x.thingIs(0, 4), run[2]);
            Due.is("HELD", x.town(0), run[2]);
            Due.is("VALUES of what 1 owns", x.personIs(1, 6), run[2]);
            Due.is("WORTH is told for a sound one", x.worth(1, 0, 0), run[0]);
        }
    }

    /** Neither of a PAIR may be less than 50 SOUND, the first as little as the second. */
    private static void pairsSound() {
        for (int breaks = 49; breaks <= 51; breaks++) {
            NamedPrices x = moved(breaks, 1);
            x.thing(1, 5);
            x.pair(0, 1, 70);
            x.pair(1, 0, 600);
            int owner = breaks <= 50 ? 1 : -1;
            Due.is("SOUND " + (100 - breaks) + ", the first", x.pairIs(0, 3), owner);
            Due.is("SOUND " + (100 - breaks) + ", the second", x.pairIs(1, 3), owner);
            Due.is("HELD", x.town(0), 9999 * (100 - breaks) / 100 + (breaks <= 50 ? 670 : 0));
            Due.is("LACKS don't ask for SOUND", x.personIs(1, 5), 0);
        }
    }

    /** What is paid: PRICE, PART, PURSE; then what is paid. */
    private static void paid() {
        int[][] runs = {{19, 5, 100, 0}, {20, 5, 100, 1}, {39, 5, 100, 1}, {40, 5, 100, 2},
            {199, 5, 100, 9}, {200, 5, 100, 10}, {9999, 99, 9999, 9899}, {1, 99, 9, 0},
            {2, 99, 9, 1}, {100, 99, 99, 99}, {100, 99, 98, 98}, {100, 99, 100, 99},
            {9999, 0, 100, 0}, {0, 99, 100, 0}, {9999, 99, 0, 0}};
        for (int[] run : runs) {
            NamedPrices x = owned(0, 0, 0);
            x.price(0, run[0]);
            x.rule(0, run[1]);
            x.purse(0, run[2]);
            x.years(1);
            String said = "PRICE " + run[0] + ", PART " + run[1] + ", PURSE " + run[2];
            Due.is(said + ": THE POT", x.town(3), run[3]);
            Due.is(said + ": what is left", x.personIs(0, 1), run[2] - run[3]);
        }
    }

    private static void mendingByTen() {
        int[][] runs = {{199, 20, 0}, {200, 20, 1}, {209, 20, 1}, {209, 21, 0}, {9, 1, 0},
            {10, 1, 1}, {9, 0, 1}, {0, 0, 1}, {9899, 990, 0}, {9899, 989, 1},
            {9889, 989, 0}, {9890, 989, 1}};
        for (int[] run : runs) {
            NamedPrices x = owned(0, 0, 9999);
            x.price(0, 0);
            x.rule(1, 1);
            // A TEXT keeps it from being mended in the YEAR in which it comes to be unsound.
            Due.feed(x, "0");
            x.text(1);
            x.years(1);
            x.untell(1);
            x.purse(1, 999);
            // The least WORTH that has this VALUE with SOUND 99.
            x.worth(1, 0, (run[0] * 100 + 98) / 99);
            Due.is("VALUE", x.thingIs(0, 4), run[0]);
            x.rule(4, run[1]);
            Due.is("VALUE " + run[0] + ", MENDS " + run[1], x.mended(0), run[2]);
            x.keep(0, 1);
            x.rule(0, 0);
            x.years(1);
            Due.is("a YEAR on: SOUND", x.thingIs(0, 2), run[2] == 1 ? 100 : 99);
            Due.is("a YEAR on: PURSE", x.personIs(1, 1), run[2] == 1 ? 999 - run[1] : 999);
        }
    }

    private static void shared() {
        for (int people = 1; people <= 6; people++) {
            for (int pot = 0; pot <= 13; pot++) {
                NamedPrices x = new NamedPrices();
                for (int i = 0; i < people; i++) {
                    x.person(0, i, 11);
                }
                x.rule(2, 1);
                Towns.fillPot(x, pot);
                x.years(1);
                String said = pot + " shared by " + people;
                for (int i = 0; i < people; i++) {
                    Due.is(said + ": PURSE of " + i, x.personIs(i, 1), i + pot / people);
                }
                Due.is(said + ": the rest stays", x.town(3), pot % people);
            }
        }
    }

    private static void voices() {
        NamedPrices x = new NamedPrices();
        x.person(3, 0, 39);
        int[][] halves = {{-3, -1 + 5}, {-1, 5}, {1, 5}, {3, 1 + 5}, {-2, -1 + 5}};
        for (int[] one : halves) {
            Due.is("LOW: names(" + one[0] + "), cut", x.voice(0, 0, one[0]), one[1]);
        }
        x.become(0, 0);
        int[][] thirds = {{-4, -1}, {-3, -1}, {-2, 0}, {2, 0}, {3, 1}, {5, 1}, {-5, -1}};
        for (int[] one : thirds) {
            Due.is("NAMER: minds(" + one[0] + "), cut", x.voice(0, 3, one[0]), one[1]);
        }
    }
}
