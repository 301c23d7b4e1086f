/** Towns for tests that want one with much in it: each call makes a new one, always alike. */
final class Towns {
    private Towns() {
    }

    /** What z is after so many draws. */
    static int drawn(int z, int times) {
        int now = z;
        for (int i = 0; i < times; i++) {
            now = now * 1103515245 + 12345;
        }
        return now;
    }

    static NamedPrices empty() {
        return new NamedPrices();
    }

    /**
     * So much (up to 9899) comes into THE POT of a town in which nothing moves: as a YEAR goes by,
     * number 0 pays it for a THING. PART is 0 then, the PURSE of 0 empty.
     */
    static void fillPot(NamedPrices x, int pot) {
        x.thing(0, 9999);
        x.purse(0, pot);
        x.rule(0, 99);
        int was = x.rule(2, 0);
        x.years(1);
        Due.is("THE POT is filled", x.town(3), pot);
        x.rule(0, 0);
        x.rule(2, was);
    }

    /**
     * Four of PEOPLE, four THINGS, two PAIRS, both TEXTS, an IMAGE, YEARS gone by; SHEETS of 16
     * and 8 bits, an empty one of 32, one that is missing; bytes on THE TAPE, numbers that wait, a
     * TRACE, and an ERROR of each k but 4.
     */
    static NamedPrices some() {
        NamedPrices x = new NamedPrices();
        x.person(5, 700, 12);
        x.person(1, 800, 23);
        x.person(6, 900, 35);
        things(x, 4, 3);
        x.pair(0, 1, 6);
        x.pair(1, 3, 7);
        x.rule(1, 30);
        x.rule(2, 1);
        x.rule(3, 2);
        x.rule(4, 15);
        x.keep(0, 1);
        x.keep(1, 1);
        Due.feed(x, "p+7");
        x.text(0);
        Due.feed(x, "s<75");
        x.text(1);
        x.years(2);
        x.image();
        x.years(3);
        x.purse(0, 650);
        sheet(x, 0, 16, 4);
        sheet(x, 1, 8, 5);
        x.sheet(2, 32, 0);
        Due.feed(x, "v+2");
        for (int i = 0; i < 4; i++) {
            if (x.thingIs(i, 0) == 1) {
                x.tell(i);
            }
        }
        someErrors(x);
        x.voice(2, 3, 5);
        return x;
    }

    /** The fourth of PEOPLE comes 3 of 9, and so is PARTED as he minds. */
    private static void someErrors(NamedPrices x) {
        x.told(0);
        x.body(-1);
        x.sheet(0, 8, -1);
        x.as(0, 6);
        x.person(0, 40, 39);
        x.voice(3, 3, 0);
        for (int i = 0; i < 3; i++) {
            x.worth(3, i, 11 * i);
        }
    }

    /** As many PEOPLE, THINGS, PAIRS, bytes, numbers that wait and numbers of SHEETS as may be. */
    static NamedPrices full() {
        NamedPrices x = new NamedPrices();
        for (int i = 0; i < 6; i++) {
            x.person(i == 0 ? 5 : i + 1, 1000 * (i + 1), 10 * (i + 1) + i + 3);
        }
        x.image();
        things(x, 12, 6);
        for (int i = 0; i < 6; i++) {
            x.pair(i, 11 - i, 100 * (i + 1));
        }
        x.rule(3, 1);
        for (int i = 0; i < 6; i++) {
            x.keep(i, 1);
        }
        for (int i = 0; i < 4; i++) {
            sheet(x, i, i == 0 ? 8 : i == 1 ? 16 : 32, 24);
        }
        Due.feed(x, "!1+1+1+1+1+1+1+1+1+1+1+1+1+1+1+1+1+1+1+1+1+1+1+1+1+1+1+1+1+1");
        for (int i = 0; i < 24; i++) {
            x.tell(6 * i);
        }
        x.voice(5, 3, 100);
        return x;
    }

    /** One who owns a THING, after as many YEARS as there may be. */
    static NamedPrices old() {
        NamedPrices x = new NamedPrices();
        x.person(1, 10, 11);
        x.thing(0, 5);
        x.worth(0, 0, 90);
        x.rule(0, 0);
        for (int i = 0; i < 249; i++) {
            x.years(40);
        }
        x.years(39);
        return x;
    }

    private static void things(NamedPrices x, int things, int people) {
        for (int i = 0; i < things; i++) {
            x.thing(i % people, 10 * i + 10);
            for (int k = 0; k < people; k++) {
                x.worth(k, i, (i * 37 + k * 53) % 290 + 20);
            }
        }
    }

    private static void sheet(NamedPrices x, int sheet, int bits, int n) {
        x.sheet(sheet, bits, n);
        for (int i = 0; i < 4; i++) {
            x.put(sheet, i, 3 * i + sheet + 1);
        }
    }
}
