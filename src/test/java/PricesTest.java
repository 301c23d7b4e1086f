/** Promises 22 to 25: taken, gain, best, right. */
public final class PricesTest {
    public static void main(String[] args) {
        beyond();
        taken();
        gain();
        best();
        bestOfAll();
        twoOwners();
        right();
        rightOfAll();
        Due.end();
    }

    /** Owner 0; 1 comes 1 of 2 and sees 50, 2 comes 2 of 6 and sees 80, 3 never and sees 99. */
    private static NamedPrices town() {
        NamedPrices x = new NamedPrices();
        x.person(0, 0, 99);
        x.person(0, 0, 12);
        x.person(0, 0, 26);
        x.person(0, 0, 3);
        x.thing(0, 10);
        x.worth(0, 0, 40);
        x.worth(1, 0, 50);
        x.worth(2, 0, 80);
        x.worth(3, 0, 99);
        return x;
    }

    private static void beyond() {
        NamedPrices x = town();
        int[][] off = {{-1, 0, 0}, {1, 0, 0}, {0, -1, 0}, {0, 10000, 0}, {0, 0, -1}, {0, 0, 2},
            {Integer.MIN_VALUE, Integer.MAX_VALUE, 7}};
        for (int[] a : off) {
            String args = "(" + a[0] + ", " + a[1] + ", " + a[2] + ")";
            Due.is("taken" + args, x.taken(a[0], a[1], a[2]), Due.BEYOND);
            Due.is("gain" + args, x.gain(a[0], a[1], a[2]), Due.BEYOND);
        }
        Due.is("best(1)", x.best(1), Due.BEYOND);
        Due.is("best(-1)", x.best(-1), Due.BEYOND);
        Due.is("right(1)", x.right(1), Due.BEYOND);
        Due.is("right(-1)", x.right(-1), Due.BEYOND);
        Due.is("told(1)", x.told(1), 2 * off.length + 4);
    }

    private static void fraction(String call, NamedPrices x, int price, int above, int below) {
        Due.is(call + price + ", 0)", x.taken(0, price, 0), above);
        Due.is(call + price + ", 1)", x.taken(0, price, 1), below);
    }

    private static void taken() {
        NamedPrices x = town();
        fraction("taken(0, ", x, 0, 2, 3);
        fraction("taken(0, ", x, 49, 2, 3);
        fraction("taken(0, ", x, 50, 1, 3);
        fraction("taken(0, ", x, 79, 1, 3);
        fraction("taken(0, ", x, 80, 0, 1);
        fraction("taken(0, ", x, 9999, 0, 1);
        x.keep(0, 1);
        fraction("KEPT doesn't matter: taken(0, ", x, 49, 2, 3);
        x.worth(3, 0, 0);
        x.become(0, 6);
        fraction("a KIND doesn't matter: taken(0, ", x, 49, 2, 3);
        NamedPrices y = new NamedPrices();
        for (int i = 0; i < 6; i++) {
            y.person(0, 0, 19);
        }
        y.thing(3, 0);
        for (int i = 0; i < 6; i++) {
            y.worth(i, 0, 9999);
        }
        fraction("five who come 1 of 9: taken(0, ", y, 9998, 59049 - 32768, 59049);
        NamedPrices z = new NamedPrices();
        z.person(0, 0, 11);
        z.person(0, 0, 11);
        z.thing(0, 0);
        z.worth(1, 0, 3);
        fraction("surely: taken(0, ", z, 2, 1, 1);
        fraction("not at 3: taken(0, ", z, 3, 0, 1);
    }

    private static void gain(NamedPrices x, int price, long above, long below) {
        Due.is("gain(0, " + price + ", 0)", x.gain(0, price, 0), above);
        Due.is("gain(0, " + price + ", 1)", x.gain(0, price, 1), below);
    }

    private static void gain() {
        NamedPrices x = town();
        // 2/3 * 49 + 1/3 * 40 - 5 * 49 / 100, and likewise.
        gain(x, 49, 871, 20);
        gain(x, 79, 981, 20);
        gain(x, 80, 36, 1);
        gain(x, 0, 40, 3);
        gain(x, 800, 0, 1);
        gain(x, 9999, -9199, 20);
        x.rule(0, 0);
        gain(x, 49, 46, 1);
        NamedPrices y = new NamedPrices();
        for (int i = 0; i < 6; i++) {
            y.person(0, 0, 19);
        }
        y.thing(0, 0);
        y.rule(0, 99);
        for (int i = 1; i < 6; i++) {
            y.worth(i, 0, 9998);
        }
        gain(y, 9997, 9997L * (100 * 26281 - 99 * 59049), 5904900);
        Due.is("what is below LOW is no ERROR here", y.told(1), 0);
        gain(y, 9999, -99L * 9999, 100);
    }

    private static void best() {
        NamedPrices x = town();
        // At 79 a third is sold: 1/3 * 79 + 2/3 * 40 - 3.95 = 49.05; at 49: 43.55.
        Due.is("best(0)", x.best(0), 79);
        x.rule(0, 40);
        // At 79: 53 - 31.6; at 49: 46 - 19.6; at 0: 40 / 3.
        Due.is("PART 40: best(0)", x.best(0), 49);
        x.rule(0, 99);
        Due.is("PART 99: best(0)", x.best(0), 0);
        x.rule(0, 0);
        x.worth(0, 0, 300);
        Due.is("what is worth more to the OWNER, the least that nobody takes", x.best(0), 80);
        x.worth(3, 0, 9999);
        x.worth(2, 0, 9999);
        x.worth(0, 0, 5000);
        Due.is("one less than 9999", x.best(0), 9998);
        NamedPrices y = new NamedPrices();
        y.person(0, 0, 11);
        y.thing(0, 10);
        y.rule(0, 0);
        Due.is("nobody else: of like ones the least", y.best(0), 0);
    }

    /** No other of 0 .. 9999 has more GAIN, and none below has as much. */
    private static void bestOfAll() {
        int[] values = {40, 50, 80, 99, 7, 0};
        int[] parts = {0, 5, 17, 33, 50, 99};
        for (int part : parts) {
            for (int turn = 0; turn < 6; turn++) {
                NamedPrices x = new NamedPrices();
                for (int i = 0; i < 4; i++) {
                    x.person(0, 0, (i + turn) % 4 * 10 + 3 + turn % 2 * 4);
                }
                x.thing(turn % 4, 0);
                for (int i = 0; i < 4; i++) {
                    x.worth(i, 0, values[(i + turn) % 6] * (turn == 5 ? 100 : 1));
                }
                x.rule(0, part);
                Due.is("PART " + part + ", turn " + turn + ": best(0)", x.best(0), tried(x));
            }
        }
    }

    private static int tried(NamedPrices x) {
        int best = 0;
        for (int price = 1; price <= 9999; price++) {
            long more = x.gain(0, price, 0) * x.gain(0, best, 1);
            long most = x.gain(0, best, 0) * x.gain(0, price, 1);
            if (more > most) {
                best = price;
            }
        }
        return best;
    }

    private static void twoOwners() {
        NamedPrices x = town();
        x.thing(2, 10);
        x.worth(0, 1, 60);
        x.worth(1, 1, 60);
        x.worth(3, 1, 60);
        for (int i = 0; i < 2; i++) {
            fraction("taken(0, ", x, 49, 2, 3);
            Due.is("0 surely comes: taken(1, 50, 0)", x.taken(1, 50, 0), 1);
            Due.is("0 surely comes: taken(1, 50, 1)", x.taken(1, 50, 1), 1);
            Due.is("best(1)", x.best(1), 59);
            Due.is("best(0)", x.best(0), 79);
        }
    }

    private static void right() {
        NamedPrices x = new NamedPrices();
        x.person(0, 0, 11);
        x.person(0, 0, 14);
        x.thing(0, 0);
        x.worth(0, 0, 40);
        x.worth(1, 0, 41);
        Due.is("right(0): one less than VALUE to another", x.right(0), 0);
        x.worth(1, 0, 40);
        // Nobody takes it at 40 or more; below 40 it is sold below its worth; at 0 that is 30 of 40.
        Due.is("right(0): the least that nobody takes", x.right(0), 0);
        x.worth(1, 0, 39);
        Due.is("right(0): with no PART", x.right(0), Due.NONE);
        x.worth(0, 0, 0);
        x.worth(1, 0, 50);
        // At 49, a fourth is sold; with PART 25 that is nothing, and 0 is the least such.
        Due.is("right(0): 0 is its worth", x.right(0), 25);
        Due.is("right: the PART is as it was", x.rule(0, 5), 5);
        Due.is("right: told(2)", x.told(2), 1);
        NamedPrices y = new NamedPrices();
        y.person(0, 0, 11);
        y.person(0, 0, 89);
        y.person(0, 0, 89);
        y.thing(0, 0);
        y.worth(1, 0, 50);
        y.worth(2, 0, 50);
        // 80 of 81 are more than 98 hundredths, but not more than 99.
        Due.is("the last PART", y.right(0), 99);
        y.person(0, 0, 89);
        y.worth(3, 0, 50);
        Due.is("not even the last PART", y.right(0), Due.NONE);
    }

    private static void rightOfAll() {
        for (int turn = 0; turn < 200; turn++) {
            NamedPrices x = new NamedPrices();
            for (int i = 0; i < 3; i++) {
                x.person(0, 0, (turn / (i + 1)) % 5 * 10 + 4);
            }
            x.thing(0, 0);
            x.worth(0, 0, turn % 7 * 9);
            x.worth(1, 0, turn % 7 * 9 + (turn % 3 == 0 ? 1 : 8));
            x.worth(2, 0, turn % 11 * 7);
            long right = x.right(0);
            long due = Due.NONE;
            for (int part = 99; part >= 0; part--) {
                x.rule(0, part);
                due = x.best(0) == x.thingIs(0, 4) ? part : due;
            }
            Due.is("turn " + turn + ": right(0)", right, due);
        }
    }
}
