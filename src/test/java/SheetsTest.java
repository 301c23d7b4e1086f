/** Promises 33 to 37: sheet, put, move, worths, judge. */
public final class SheetsTest {
    private static final int MIN = Integer.MIN_VALUE;
    private static final int MAX = Integer.MAX_VALUE;

    public static void main(String[] args) {
        sheet();
        put();
        widths();
        move();
        moveOverItself();
        moveEdges();
        worths();
        judge();
        Due.end();
    }

    private static void sheet() {
        NamedPrices x = new NamedPrices();
        for (int bits : new int[] {-1, 1, 4, 7, 9, 15, 17, 24, 31, 33, 64, MIN, MAX}) {
            Due.is("sheet(0, " + bits + ", 1)", x.sheet(0, bits, 1), Due.BEYOND);
            Due.is("sheet(0, " + bits + ", -1)", x.sheet(0, bits, -1), Due.BEYOND);
        }
        Due.is("sheet(-1, 8, 1)", x.sheet(-1, 8, 1), Due.BEYOND);
        Due.is("sheet(4, 8, 1)", x.sheet(4, 8, 1), Due.BEYOND);
        Due.is("sheet(4, 8, -1)", x.sheet(4, 8, -1), Due.BEYOND);
        Due.is("sheet(-1, 0, 1)", x.sheet(-1, 0, 1), Due.BEYOND);
        for (int bits : new int[] {8, 16, 32}) {
            Due.is("sheet(3, bits, -1)", x.sheet(3, bits, -1), Due.STATE);
            Due.is("sheet(3, bits, MIN)", x.sheet(3, bits, MIN), Due.STATE);
            Due.is("sheet(3, bits, 25)", x.sheet(3, bits, 25), Due.BEYOND);
            Due.is("sheet(3, bits, MAX)", x.sheet(3, bits, MAX), Due.BEYOND);
            Due.is("sheet(3, bits, 24)", x.sheet(3, bits, 24), 1);
            Due.is("put(3, 23, 1)", x.put(3, 23, 1), 1);
            Due.is("sheet(3, bits, 0)", x.sheet(3, bits, 0), 1);
            Due.is("put(3, 0, 1): no such number", x.put(3, 0, 1), Due.BEYOND);
            Due.is("judge(3): it is not missing", x.judge(3), 0);
            Due.is("sheet(3, 0, -1): n doesn't matter", x.sheet(3, 0, -1), 1);
            Due.is("sheet(3, 0, 25): n doesn't matter", x.sheet(3, 0, 25), 1);
            Due.is("put(3, 0, 1): it is missing", x.put(3, 0, 1), Due.NONE);
        }
        numbersAreZero();
        keptByErrors();
    }

    /** The numbers of a SHEET, told as WORTHS of so many THINGS. */
    private static void numbers(String said, NamedPrices x, int sheet, int... due) {
        Due.is(said + ": worths(" + sheet + ", 0)", x.worths(sheet, 0), due.length);
        for (int i = 0; i < due.length; i++) {
            Due.is(said + ": number " + i, x.thingIs(i, 4), due[i]);
        }
    }

    private static NamedPrices withThings(int n) {
        NamedPrices x = new NamedPrices();
        x.person(1, 0, 11);
        for (int i = 0; i < n; i++) {
            x.thing(0, 0);
        }
        return x;
    }

    private static void numbersAreZero() {
        NamedPrices x = withThings(4);
        x.sheet(1, 32, 4);
        for (int i = 0; i < 4; i++) {
            x.put(1, i, 70 + i);
        }
        x.sheet(2, 16, 4);
        numbers("put", x, 1, 70, 71, 72, 73);
        x.sheet(1, 16, 4);
        numbers("a new SHEET is 0", x, 1, 0, 0, 0, 0);
        x.put(1, 3, 9);
        x.sheet(1, 16, 2);
        x.sheet(1, 16, 4);
        numbers("a longer one is 0", x, 1, 0, 0, 0, 0);
    }

    private static void keptByErrors() {
        NamedPrices x = withThings(2);
        x.sheet(1, 32, 2);
        x.put(1, 1, 5);
        x.sheet(1, 16, -1);
        x.sheet(1, 16, 25);
        x.sheet(1, 7, 2);
        numbers("an ERROR changes nothing", x, 1, 0, 5);
    }

    private static void put() {
        NamedPrices x = withThings(3);
        Due.is("put(-1, 0, 0)", x.put(-1, 0, 0), Due.BEYOND);
        Due.is("put(4, 0, 0)", x.put(4, 0, 0), Due.BEYOND);
        Due.is("put(4, -1, 0)", x.put(4, -1, 0), Due.BEYOND);
        Due.is("put(0, -1, 0): NONE is asked first", x.put(0, -1, 0), Due.NONE);
        x.sheet(0, 16, 3);
        Due.is("put(0, -1, 0)", x.put(0, -1, 0), Due.BEYOND);
        Due.is("put(0, 3, 0)", x.put(0, 3, 0), Due.BEYOND);
        Due.is("put(0, MIN, 0)", x.put(0, MIN, 0), Due.BEYOND);
        Due.is("put(0, MAX, 0)", x.put(0, MAX, 0), Due.BEYOND);
        Due.is("put(0, 2, 9999)", x.put(0, 2, 9999), 1);
        numbers("put", x, 0, 0, 0, 9999);
    }

    private static void widths() {
        NamedPrices x = withThings(1);
        int[][] due = {
            {8, 127, 127}, {8, 128, -1}, {8, 255, -1}, {8, 256, 0}, {8, 257 + 512, 1}, {8, -1, -1},
            {8, -200, 56}, {16, 9999, 9999}, {16, 10000, -1}, {16, 65536 + 4, 4}, {16, 32768, -1},
            {16, -1, -1}, {16, -65530, 6}, {32, 65536, -1}, {32, 9999, 9999}, {32, MIN, -1}};
        for (int[] one : due) {
            x.sheet(0, one[0], 1);
            x.put(0, 0, one[1]);
            x.worth(0, 0, 77);
            String said = one[1] + " in " + one[0] + " bits: ";
            Due.is(said + "worths(0, 0)", x.worths(0, 0), one[2] < 0 ? 0 : 1);
            Due.is(said + "thingIs(0, 4)", x.thingIs(0, 4), one[2] < 0 ? 77 : one[2]);
        }
    }

    private static NamedPrices withSheets() {
        NamedPrices x = withThings(6);
        x.sheet(0, 16, 6);
        x.sheet(1, 16, 4);
        x.sheet(2, 8, 6);
        for (int i = 0; i < 6; i++) {
            x.put(0, i, i + 1);
        }
        return x;
    }

    private static void move() {
        NamedPrices x = withSheets();
        Due.is("move(-1, 0, 0, 0, 1)", x.move(-1, 0, 0, 0, 1), Due.BEYOND);
        Due.is("move(0, 0, 4, 0, 1)", x.move(0, 0, 4, 0, 1), Due.BEYOND);
        Due.is("move(3, 0, 4, 0, 1): BEYOND first", x.move(3, 0, 4, 0, 1), Due.BEYOND);
        Due.is("move(3, 0, 0, 0, 1)", x.move(3, 0, 0, 0, 1), Due.NONE);
        Due.is("move(0, 0, 3, 0, 1)", x.move(0, 0, 3, 0, 1), Due.NONE);
        Due.is("move(3, -1, 3, 0, -1): NONE first", x.move(3, -1, 3, 0, -1), Due.NONE);
        Due.is("move(0, 0, 2, 0, 1)", x.move(0, 0, 2, 0, 1), Due.KIND);
        Due.is("move(0, -1, 2, 0, -1): KIND first", x.move(0, -1, 2, 0, -1), Due.KIND);
        Due.is("move(0, 2, 1, 1, 3)", x.move(0, 2, 1, 1, 3), 3);
        numbers("move", x, 1, 0, 3, 4, 5);
        numbers("the other stays", x, 0, 1, 2, 3, 4, 5, 6);
        Due.is("told(1)", x.told(1), 3);
        Due.is("told(2)", x.told(2), 3);
        Due.is("told(5)", x.told(5), 2);
    }

    private static void moveOverItself() {
        NamedPrices x = withSheets();
        Due.is("move(0, 0, 0, 2, 4)", x.move(0, 0, 0, 2, 4), 4);
        numbers("upward", x, 0, 1, 2, 1, 2, 3, 4);
        NamedPrices y = withSheets();
        Due.is("move(0, 1, 0, 0, 5)", y.move(0, 1, 0, 0, 5), 5);
        numbers("downward", y, 0, 2, 3, 4, 5, 6, 6);
        Due.is("move(0, 0, 0, 0, 6)", y.move(0, 0, 0, 0, 6), 6);
        numbers("on its place", y, 0, 2, 3, 4, 5, 6, 6);
    }

    private static void moveEdges() {
        NamedPrices x = withSheets();
        int[][] off = {{0, 0, -1}, {-1, 0, 1}, {0, -1, 1}, {0, 0, 5}, {3, 0, 4}, {0, 2, 3},
            {7, 0, 0}, {0, 5, 0}, {6, 0, 1}, {0, 4, 1}, {MAX, 0, 1}, {1, 0, MAX}, {0, 1, MAX},
            {MAX, MAX, MAX}, {MIN, MIN, MIN}, {0, 0, MIN}, {-1, 0, 0}, {0, -1, 0}};
        for (int[] a : off) {
            Due.is("move(0, " + a[0] + ", 1, " + a[1] + ", " + a[2] + ")",
                x.move(0, a[0], 1, a[1], a[2]), Due.BEYOND);
        }
        Due.is("move(0, 6, 1, 4, 0)", x.move(0, 6, 1, 4, 0), 0);
        Due.is("move(0, 2, 1, 0, 4)", x.move(0, 2, 1, 0, 4), 4);
        numbers("move", x, 1, 3, 4, 5, 6);
    }

    private static void worths() {
        NamedPrices x = withThings(3);
        x.person(1, 0, 11);
        Due.is("worths(-1, 0)", x.worths(-1, 0), Due.BEYOND);
        Due.is("worths(4, 0)", x.worths(4, 0), Due.BEYOND);
        Due.is("worths(0, -1): BEYOND first", x.worths(0, -1), Due.BEYOND);
        Due.is("worths(0, 2): BEYOND first", x.worths(0, 2), Due.BEYOND);
        Due.is("worths(0, 0)", x.worths(0, 0), Due.NONE);
        x.sheet(0, 32, 24);
        x.put(0, 0, 9999);
        x.put(0, 1, 10000);
        x.put(0, 2, 5);
        x.worth(0, 2, 44);
        Due.is("up to the first that can't be", x.worths(0, 0), 1);
        Due.is("the first is told", x.thingIs(0, 4), 9999);
        Due.is("the third is not", x.thingIs(2, 4), 44);
        x.put(0, 1, -1);
        Due.is("below 0 can't be", x.worths(0, 0), 1);
        x.put(0, 1, 3);
        Due.is("till THINGS end", x.worths(0, 1), 3);
        Due.is("to that one: what it was", x.worth(1, 2, 0), 5);
        x.sheet(0, 32, 2);
        Due.is("till the SHEET ends", x.worths(0, 0), 2);
        Due.is("the third stays", x.thingIs(2, 4), 44);
        x.sheet(0, 32, 0);
        Due.is("no numbers", x.worths(0, 0), 0);
    }

    private static void judge() {
        NamedPrices x = withThings(3);
        Due.is("judge(-1)", x.judge(-1), Due.BEYOND);
        Due.is("judge(4)", x.judge(4), Due.BEYOND);
        Due.is("judge(0)", x.judge(0), Due.NONE);
        for (int i = 0; i < 3; i++) {
            x.worth(0, i, 10 * i + 10);
        }
        x.sheet(0, 8, 5);
        Due.is("the first is not so", x.judge(0), 0);
        x.put(0, 0, 10);
        x.put(0, 2, 30);
        Due.is("the second is not so", x.judge(0), 1);
        x.put(0, 1, 20);
        Due.is("none", x.judge(0), 3);
        x.become(0, 2);
        Due.is("by what is NAMED now", x.judge(0), 0);
        x.become(0, 1);
        x.sheet(1, 8, 2);
        x.move(0, 0, 1, 0, 2);
        Due.is("one without a number", x.judge(1), 2);
        x.worth(0, 2, 0);
        Due.is("one without a number that is NAMED 0", x.judge(1), 2);
        Due.is("nobody's book", new NamedPrices().judge(0), Due.NONE);
        NamedPrices y = new NamedPrices();
        y.sheet(0, 8, 3);
        Due.is("no THINGS", y.judge(0), 0);
        Due.is("PRICES stay", x.town(6), 0);
    }
}
