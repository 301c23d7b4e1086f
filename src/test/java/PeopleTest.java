/** Promises 1 to 6: a new object, person, personIs, as, become, purse. */
public final class PeopleTest {
    public static void main(String[] args) {
        newObject();
        person();
        personIs();
        as();
        become();
        purse();
        Due.end();
    }

    private static void newObject() {
        NamedPrices x = new NamedPrices();
        for (int what = 0; what <= 6; what++) {
            Due.is("new: count(" + what + ")", x.count(what), 0);
            Due.is("new: town(" + what + ")", x.town(what), 0);
        }
        Due.is("new: count(7)", x.count(7), 1);
        int[] rules = {5, 10, 0, 1, 20};
        for (int i = 0; i < rules.length; i++) {
            Due.is("new: rule(" + i + ", 0)", x.rule(i, 0), rules[i]);
        }
        for (int k = 1; k <= 6; k++) {
            Due.is("new: told(" + k + ")", x.told(k), 0);
        }
        Due.is("new: personIs(0, 0)", x.personIs(0, 0), Due.BEYOND);
        Due.is("new: thingIs(0, 0)", x.thingIs(0, 0), Due.BEYOND);
        Due.is("new: pairIs(0, 0)", x.pairIs(0, 0), Due.BEYOND);
        Due.is("new: put(0, 0, 0)", x.put(0, 0, 0), Due.NONE);
        Due.is("new: body(0)", x.body(0), Due.NONE);
        Due.is("new: restore()", x.restore(), Due.NONE);
        Due.is("new: untell(0)", x.untell(0), 0);
        Due.is("new: untell(1)", x.untell(1), 0);
        Due.is("new: years(1)", x.years(1), 0);
        Due.is("new: years(1): count(3)", x.count(3), 1);
        Due.is("new: part(40)", x.part(40), 0);
        NamedPrices y = new NamedPrices();
        Due.is("new: another is not touched", y.count(3), 0);
    }

    private static void person() {
        NamedPrices x = new NamedPrices();
        int[][] beyond = {
            {-1, 0, 11}, {7, 0, 11}, {0, -1, 11}, {0, 1000000, 11}, {0, 0, 10}, {0, 0, 21},
            {0, 0, 0}, {0, 0, -1}, {0, 0, -11}, {0, 0, 100}, {0, 0, 101}, {0, 0, 109},
            {0, 0, Integer.MIN_VALUE}, {0, 0, Integer.MAX_VALUE},
            {Integer.MIN_VALUE, 0, 11}, {0, Integer.MAX_VALUE, 11}};
        for (int[] a : beyond) {
            String call = "person(" + a[0] + ", " + a[1] + ", " + a[2] + ")";
            Due.is(call, x.person(a[0], a[1], a[2]), Due.BEYOND);
        }
        Due.is("person: none came", x.count(0), 0);
        Due.is("person: told(1)", x.told(1), beyond.length);
        int[][] come = {{0, 0, 1}, {6, 999999, 99}, {5, 7, 9}, {1, 1, 11}, {2, 2, 45}, {3, 3, 89}};
        for (int i = 0; i < come.length; i++) {
            Due.is("person number " + i, x.person(come[i][0], come[i][1], come[i][2]), i);
            for (int what = 0; what < 3; what++) {
                Due.is("personIs(" + i + ", " + what + ")", x.personIs(i, what), come[i][what]);
            }
        }
        Due.is("person: a seventh", x.person(0, 0, 11), Due.FULL);
        Due.is("person: BEYOND is asked first", x.person(7, 0, 11), Due.BEYOND);
        Due.is("person: told(4)", x.told(4), 1);
        Due.is("person: six", x.count(0), 6);
    }

    private static void personIs() {
        NamedPrices x = new NamedPrices();
        x.person(4, 120, 23);
        x.person(1, 5, 11);
        x.thing(0, 10);
        x.thing(1, 20);
        x.thing(0, 30);
        x.worth(0, 0, 100);
        x.worth(0, 1, 1000);
        x.worth(0, 2, 33);
        x.worth(1, 0, 9);
        x.worth(1, 1, 77);
        x.keep(2, 1);
        x.pair(0, 1, 5);
        x.pair(0, 2, 6);
        x.pair(2, 1, 7);
        int[][] due = {{4, 120, 23, 2, 1, 5, 133}, {1, 5, 11, 1, 0, 5, 77}};
        for (int i = 0; i < 2; i++) {
            for (int what = 0; what <= 6; what++) {
                Due.is("personIs(" + i + ", " + what + ")", x.personIs(i, what), due[i][what]);
            }
        }
        Due.is("personIs(-1, 0)", x.personIs(-1, 0), Due.BEYOND);
        Due.is("personIs(2, 0)", x.personIs(2, 0), Due.BEYOND);
        Due.is("personIs(0, -1)", x.personIs(0, -1), Due.BEYOND);
        Due.is("personIs(0, 7)", x.personIs(0, 7), Due.BEYOND);
    }

    private static void as() {
        boolean[][] under = {
            {true, false, false, false, false, false, false},
            {true, true, false, false, false, false, false},
            {true, true, true, false, false, false, false},
            {true, true, false, true, false, false, false},
            {true, false, false, false, true, false, false},
            {true, false, false, false, false, true, false},
            {true, true, false, false, false, false, true}};
        NamedPrices x = new NamedPrices();
        x.person(0, 42, 11);
        int refused = 0;
        for (int kind = 0; kind <= 6; kind++) {
            x.become(0, kind);
            for (int other = 0; other <= 6; other++) {
                refused += under[kind][other] ? 0 : 1;
                long due = under[kind][other] ? 42 : Due.KIND;
                Due.is("of KIND " + kind + ": as(0, " + other + ")", x.as(0, other), due);
            }
        }
        Due.is("as: told(5)", x.told(5), refused);
        Due.is("as(1, 0)", x.as(1, 0), Due.BEYOND);
        Due.is("as(-1, 0)", x.as(-1, 0), Due.BEYOND);
        Due.is("as(0, 7)", x.as(0, 7), Due.BEYOND);
        Due.is("as(0, -1)", x.as(0, -1), Due.BEYOND);
    }

    private static void become() {
        NamedPrices x = new NamedPrices();
        x.person(3, 0, 11);
        Due.is("become(0, 6)", x.become(0, 6), 3);
        Due.is("become(0, 7)", x.become(0, 7), Due.BEYOND);
        Due.is("become(0, -1)", x.become(0, -1), Due.BEYOND);
        Due.is("become(1, 0)", x.become(1, 0), Due.BEYOND);
        Due.is("become(-1, 0)", x.become(-1, 0), Due.BEYOND);
        Due.is("become(0, 0)", x.become(0, 0), 6);
        Due.is("become: personIs(0, 0)", x.personIs(0, 0), 0);
    }

    private static void purse() {
        NamedPrices x = new NamedPrices();
        x.person(3, 17, 11);
        Due.is("purse(0, 999999)", x.purse(0, 999999), 17);
        Due.is("purse(0, 1000000)", x.purse(0, 1000000), Due.BEYOND);
        Due.is("purse(0, -1)", x.purse(0, -1), Due.BEYOND);
        Due.is("purse(1, 0)", x.purse(1, 0), Due.BEYOND);
        Due.is("purse(-1, 0)", x.purse(-1, 0), Due.BEYOND);
        Due.is("purse(0, 0)", x.purse(0, 0), 999999);
        Due.is("purse: town(2)", x.town(2), 0);
    }
}
