/** Promises 38 to 43: image, restore, tell, check, count, told. */
public final class ImagesTest {
    public static void main(String[] args) {
        imageAndRestore();
        allIsKept();
        notKept();
        newOnesAfterRestore();
        tell();
        check();
        checkEdges();
        count();
        told();
        Due.end();
    }

    private static void imageAndRestore() {
        NamedPrices x = new NamedPrices();
        Due.is("restore()", x.restore(), Due.NONE);
        x.years(3);
        Due.is("image()", x.image(), 1);
        x.years(4);
        Due.is("restore()", x.restore(), 3);
        Due.is("count(3)", x.count(3), 3);
        x.years(5);
        Due.is("the IMAGE stays: restore()", x.restore(), 3);
        x.years(6);
        Due.is("image() in place of one ahead", x.image(), 2);
        Due.is("restore()", x.restore(), 9);
        Due.is("how often this was done is not kept", x.image(), 3);
    }

    private static NamedPrices made() {
        NamedPrices x = new NamedPrices();
        x.person(5, 700, 11);
        x.person(1, 800, 23);
        x.thing(0, 10);
        x.thing(1, 20);
        x.worth(0, 0, 90);
        x.worth(0, 1, 70);
        x.worth(1, 1, 40);
        x.pair(0, 1, 6);
        x.rule(1, 9);
        x.keep(0, 1);
        Due.feed(x, "p+7");
        x.text(0);
        Due.feed(x, "s<90");
        x.text(1);
        x.years(3);
        x.keep(0, 0);
        x.keep(1, 1);
        Due.feed(x, "1+1");
        x.tell(0);
        x.tell(1);
        return x;
    }

    private static long[] seen(NamedPrices x) {
        long[] all = new long[64];
        int n = 0;
        for (int what = 0; what <= 7; what++) {
            all[n++] = what == 6 ? 0 : x.count(what);
        }
        for (int what = 0; what <= 6; what++) {
            all[n++] = x.town(what);
            all[n++] = x.personIs(0, what);
            all[n++] = x.personIs(1, what);
        }
        for (int what = 0; what <= 5; what++) {
            all[n++] = x.thingIs(0, what);
            all[n++] = x.thingIs(1, what);
        }
        for (int what = 0; what <= 3; what++) {
            all[n++] = x.pairIs(0, what);
        }
        for (int i = 0; i < 2; i++) {
            all[n++] = x.named(i);
            all[n++] = x.mended(i);
            all[n++] = x.best(i);
            all[n++] = x.whose(20, i);
        }
        all[n++] = x.then(30, 2);
        all[n++] = x.then(30, 3);
        return all;
    }

    private static void allIsKept() {
        NamedPrices x = made();
        long[] first = seen(x);
        x.image();
        x.become(0, 4);
        x.purse(1, 3);
        x.person(0, 5, 11);
        x.thing(1, 4);
        x.price(0, 3);
        x.worth(1, 1, 4444);
        x.worth(0, 1, 2);
        x.keep(1, 0);
        x.pair(1, 0, 60);
        for (int i = 0; i < 5; i++) {
            x.rule(i, 2);
        }
        x.untell(1);
        x.text(0);
        x.check(0);
        x.years(17);
        x.seed(-5);
        x.restore();
        long[] again = seen(x);
        for (int i = 0; i < first.length; i++) {
            Due.is("restore(): answer " + i, again[i], first[i]);
        }
        int[] rules = {5, 9, 0, 1, 20};
        for (int i = 0; i < 5; i++) {
            Due.is("restore(): rule(" + i + ", 0)", x.rule(i, 0), rules[i]);
        }
        Due.is("restore(): THE TAPE and what waits", x.count(4) * 10 + x.count(5), 32);
        Due.feed(x, "+v");
        Due.is("restore(): THE TAPE goes on", x.text(0), 1);
        Due.is("restore(): the MENDING TEXT", x.untell(1), 1);
        x.tell(7);
        Due.is("restore(): what waits is what was told", x.check(0), x.thingIs(1, 0) == 0 ? 3 : 2);
    }

    private static void notKept() {
        NamedPrices x = made();
        x.sheet(0, 8, 2);
        x.voice(0, 0, 1);
        x.image();
        x.sheet(0, 0, 0);
        x.sheet(1, 8, 2);
        x.voice(1, 1, 1);
        x.keep(9, 9);
        x.restore();
        Due.is("SHEETS stay: missing", x.put(0, 0, 1), Due.NONE);
        Due.is("SHEETS stay: there", x.put(1, 0, 1), 1);
        Due.is("THE TRACE stays", x.count(6), 3);
        Due.is("what told() tells stays", x.told(1), 1);
    }

    private static void newOnesAfterRestore() {
        NamedPrices x = new NamedPrices();
        x.person(1, 1, 11);
        x.image();
        x.person(2, 2, 22);
        x.thing(1, 5);
        x.worth(0, 0, 8);
        x.worth(1, 0, 9);
        x.keep(0, 1);
        x.restore();
        Due.is("one of PEOPLE again", x.person(3, 3, 33), 1);
        pairsAfterRestore();
        Due.is("a THING again", x.thing(0, 6), 0);
        Due.is("its WORTH is 0 again", x.worth(0, 0, 1), 0);
        Due.is("and to the other", x.worth(1, 0, 1), 0);
        Due.is("it is not KEPT", x.thingIs(0, 3), 0);
        Due.is("it is SOUND", x.thingIs(0, 2), 100);
    }

    private static void pairsAfterRestore() {
        NamedPrices x = new NamedPrices();
        x.person(1, 1, 11);
        x.thing(0, 1);
        x.thing(0, 1);
        x.thing(0, 1);
        x.image();
        x.pair(0, 1, 7);
        x.restore();
        Due.is("a PAIR again", x.pair(1, 2, 9), 0);
        int[] due = {1, 2, 9, 0};
        for (int what = 0; what <= 3; what++) {
            Due.is("pairIs(0, " + what + ")", x.pairIs(0, what), due[what]);
        }
    }

    private static void tell() {
        NamedPrices x = new NamedPrices();
        for (int i = 1; i <= 24; i++) {
            Due.is("tell(MIN)", x.tell(Integer.MIN_VALUE), i);
        }
        Due.is("tell: a 25th", x.tell(0), Due.FULL);
        Due.is("count(5)", x.count(5), 24);
        Due.is("check(0): BEYOND", x.check(0), Due.BEYOND);
        Due.is("none wait then, too", x.count(5), 0);
        Due.is("tell(0)", x.tell(0), 1);
    }

    private static int checked(NamedPrices x, int person, int... told) {
        for (int v : told) {
            x.tell(v);
        }
        int answer = x.check(person);
        Due.is("none wait any more", x.count(5), 0);
        return answer;
    }

    private static void check() {
        NamedPrices x = new NamedPrices();
        for (int i = 0; i < 3; i++) {
            x.person(0, 0, 11);
        }
        int[] owners = {0, 1, 0, 0, 1};
        for (int owner : owners) {
            x.thing(owner, 0);
        }
        Due.is("0, 2, 3 are 0's", checked(x, 0, 0, 2, 3), 0);
        Due.is("1, 4 are 1's", checked(x, 1, 1, 4), 0);
        Due.is("none are 2's", checked(x, 2), 0);
        Due.is("none are not 0's", checked(x, 0), 1);
        Due.is("0, 2: one lacks", checked(x, 0, 0, 2), 3);
        Due.is("0, 3: one lacks between", checked(x, 0, 0, 3), 2);
        Due.is("0, 2, 3, 4: one is too many", checked(x, 0, 0, 2, 3, 4), 4);
        Due.is("0, 2, 3, 3: one is too many", checked(x, 0, 0, 2, 3, 3), 4);
        Due.is("0: is too many for 2", checked(x, 2, 0), 1);
        Due.is("3, 2, 0: the least first", checked(x, 0, 3, 2, 0), 1);
        Due.is("0, 0: twice", checked(x, 0, 0, 0), 2);
        Due.is("-1", checked(x, 0, -1), 1);
    }

    private static void checkEdges() {
        NamedPrices x = new NamedPrices();
        x.person(0, 0, 11);
        x.thing(0, 0);
        Due.is("check(-1)", checked(x, -1, 0), Due.BEYOND);
        Due.is("check(1)", checked(x, 1, 0), Due.BEYOND);
        Due.is("check(MAX)", checked(x, Integer.MAX_VALUE, 0), Due.BEYOND);
        Due.is("check(0)", checked(x, 0, 0), 0);
        Due.is("told(1)", x.told(1), 3);
    }

    private static void count() {
        NamedPrices x = made();
        x.voice(0, 1, 1);
        int[] due = {2, 2, 1, 3, 3, 2, 3};
        for (int what = 0; what <= 6; what++) {
            Due.is("count(" + what + ")", x.count(what), due[what]);
        }
        x.seed(-77);
        Due.is("count(7)", x.count(7), -77);
        Due.is("count(8)", x.count(8), Due.BEYOND);
        Due.is("count(-1)", x.count(-1), Due.BEYOND);
        Due.is("count(MIN)", x.count(Integer.MIN_VALUE), Due.BEYOND);
        x.seed(-1000000001);
        Due.is("count(7) that looks like one is no ERROR", x.count(7), -1000000001);
        Due.is("told(1)", x.told(1), 3);
    }

    private static void told() {
        NamedPrices x = new NamedPrices();
        Due.is("told(0)", x.told(0), Due.BEYOND);
        Due.is("told(7)", x.told(7), Due.BEYOND);
        Due.is("told(-1)", x.told(-1), Due.BEYOND);
        Due.is("told(MIN)", x.told(Integer.MIN_VALUE), Due.BEYOND);
        Due.is("told(1): counted, too", x.told(1), 4);
        x.restore();
        x.sheet(0, 8, -1);
        x.sheet(0, 8, -1);
        x.person(1, 0, 9);
        x.as(0, 2);
        x.voice(0, 3, 0);
        x.feed(0, 8);
        for (int i = 0; i < 9; i++) {
            x.feed(0, 8);
        }
        x.text(0);
        int[] due = {4, 1, 2, 3, 1, 1};
        for (int k = 1; k <= 6; k++) {
            Due.is("told(" + k + ")", x.told(k), due[k - 1]);
        }
        Due.is("another object's", new NamedPrices().told(1), 0);
    }
}
