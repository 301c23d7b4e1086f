/** Promises 31 and 32: voice, body. */
public final class VoicesTest {
    public static void main(String[] args) {
        answers();
        traces();
        parted();
        wraps();
        wrongCalls();
        Due.end();
    }

    /** Number 2, who comes 5 of 7, of so many KINDS. */
    private static NamedPrices third(int kind) {
        NamedPrices x = new NamedPrices();
        x.person(0, 0, 11);
        x.person(0, 0, 11);
        x.person(kind, 0, 57);
        return x;
    }

    private static void answers() {
        // names(7), buys(7), pays(7), minds(7), by the bodies with n 2, p 5.
        int[][] due = {
            {9, 18, 13, 2},
            {14, 28, 23, 2 + 16},
            {14, -28, -33, 2 - 16},
            {10, 20, 15 ^ 2, 2 + 14},
            {9, 18, 15, 2},
            {8, 18, 13, 2},
            {42, 84, 79, 2 + 48 - (42 - 5)}};
        for (int kind = 0; kind <= 6; kind++) {
            NamedPrices x = third(kind);
            for (int voice = 0; voice <= 3; voice++) {
                Due.is("KIND " + kind + ": voice(2, " + voice + ", 7)", x.voice(2, voice, 7),
                    due[kind][voice]);
            }
        }
        NamedPrices x = third(3);
        Due.is("LOW: voice(2, 0, -7): cut", x.voice(2, 0, -7), -3 + 2 + 5);
        x.become(2, 0);
        Due.is("NAMER: voice(2, 3, -8): cut", x.voice(2, 3, -8), -2);
    }

    private static void traced(NamedPrices x, int voice, int... due) {
        x.voice(2, voice, 7);
        holds(x, "voice(2, " + voice + ", 7)", due);
    }

    private static void holds(NamedPrices x, String after, int... due) {
        Due.is(after + ": count(6)", x.count(6), due.length);
        for (int i = 0; i < due.length; i++) {
            Due.is(after + ": body(" + i + ")", x.body(i), due[i]);
        }
        Due.is(after + ": no more", x.body(due.length), Due.NONE);
        Due.is(after + ": body(-1)", x.body(-1), Due.NONE);
    }

    private static void traces() {
        NamedPrices x = third(0);
        traced(x, 0, 10);
        traced(x, 2, 12, 11, 10);
        traced(x, 3, 13);
        x.become(2, 1);
        traced(x, 1, 11, 20, 10);
        traced(x, 3, 21, 13, 11, 20, 10);
        x.become(2, 2);
        traced(x, 2, 12, 30, 11, 20, 10);
        x.become(2, 3);
        traced(x, 2, 41, 12, 11, 40, 20, 10);
        x.become(2, 4);
        traced(x, 2, 50, 12, 11, 10);
        x.become(2, 5);
        traced(x, 1, 71, 11, 70);
        x.become(2, 6);
        traced(x, 3, 61, 21, 13, 11, 60, 20, 10, 12, 11, 60, 20, 10);
        Due.is("body(MAX)", x.body(Integer.MAX_VALUE), Due.NONE);
        x.image();
        traced(x, 0, 60, 20, 10);
        x.restore();
        Due.is("an IMAGE has no TRACE", x.count(6), 3);
    }

    private static void parted() {
        NamedPrices x = new NamedPrices();
        x.person(0, 0, 9);
        x.person(6, 0, 13);
        x.person(3, 0, 29);
        Due.is("voice(0, 0, 7)", x.voice(0, 0, 7), 7);
        Due.is("p 0, n 0: voice(0, 3, 7)", x.voice(0, 3, 7), Due.PARTED);
        holds(x, "NAMER, PARTED", 13);
        Due.is("p 1, n 1: voice(1, 3, 7)", x.voice(1, 3, 7), Due.PARTED);
        holds(x, "BEST, PARTED", 61, 21, 13);
        Due.is("voice(1, 4, 7)", x.voice(1, 4, 7), Due.BEYOND);
        holds(x, "BEYOND: still the one ahead's", 61, 21, 13);
        Due.is("p 2, n 2: voice(2, 3, 7)", x.voice(2, 3, 7), Due.PARTED);
        holds(x, "LOW, PARTED", 21, 13);
        Due.is("told(6)", x.told(6), 3);
        Due.is("the other voices still speak", x.voice(2, 2, 7), 11 * 0 + ((2 * (3 + 2 + 5) - 2) ^ 2));
        holds(x, "no longer PARTED", 41, 12, 11, 40, 20, 10);
        Due.is("told(6)", x.told(6), 3);
        Due.is("an IMAGE has no TRACE: image()", x.image(), 1);
        x.voice(1, 3, 7);
        Due.is("restore()", x.restore(), 0);
        holds(x, "PARTED, restored", 61, 21, 13);
    }

    private static void wraps() {
        NamedPrices x = third(0);
        int max = Integer.MAX_VALUE;
        int min = Integer.MIN_VALUE;
        Due.is("voice(2, 0, MAX)", x.voice(2, 0, max), min + 1);
        Due.is("voice(2, 1, MAX)", x.voice(2, 1, max), (max + 2) * 2);
        NamedPrices y = new NamedPrices();
        y.person(0, 0, 11);
        y.person(0, 0, 9);
        Due.is("p 0, n 1: voice(1, 3, MIN)", y.voice(1, 3, min), min);
        Due.is("voice(1, 0, LOW - 2): no ERROR", y.voice(1, 0, -1000000002), -1000000001);
        Due.is("told(1)", y.told(1), 0);
    }

    private static void wrongCalls() {
        NamedPrices x = third(6);
        x.voice(2, 0, 1);
        int[][] off = {{-1, 0}, {3, 0}, {0, -1}, {0, 4}, {Integer.MIN_VALUE, Integer.MAX_VALUE}};
        for (int[] a : off) {
            Due.is("voice(" + a[0] + ", " + a[1] + ", 1)", x.voice(a[0], a[1], 1), Due.BEYOND);
        }
        Due.is("an ERROR changes nothing: count(6)", x.count(6), 3);
        Due.is("told(1)", x.told(1), off.length);
    }
}
