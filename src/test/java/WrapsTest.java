/** Ints that wrap: in TEXTS, in VOICES, in draws, in what is put on a SHEET or fed to THE TAPE. */
public final class WrapsTest {
    private static final int MIN = Integer.MIN_VALUE;
    private static final int MAX = Integer.MAX_VALUE;

    public static void main(String[] args) {
        texts();
        byNothing();
        truths();
        namers();
        others();
        draws();
        drawsInTurn();
        lowestBits();
        words();
        Due.end();
    }

    private static void texts(NamedPrices x, String text, int due) {
        Due.feed(x, text);
        Due.is("text(0) of " + text, x.text(0), 1);
        Due.is(text, x.named(0), due);
    }

    private static NamedPrices told() {
        NamedPrices x = new NamedPrices();
        x.person(5, 0, 11);
        x.thing(0, 0);
        x.worth(0, 0, 7);
        return x;
    }

    /** 8192*8192*32 is the least int there is. */
    private static void texts() {
        NamedPrices x = told();
        texts(x, "8192*8192*32<0", 1);
        texts(x, "8192*8192*32-1>0", 1);
        texts(x, "8192*8192*32-1+1<0", 1);
        texts(x, "8192*8192*32-1+1=8192*8192*32", 1);
        texts(x, "0-8192*8192*32=8192*8192*32", 1);
        texts(x, "8192*8192*32/(0-1)=8192*8192*32", 1);
        texts(x, "8192*8192*32%(0-1)+3", 3);
        texts(x, "8192*8192*32*(0-1)<0", 1);
        texts(x, "8192*8192*32*3=8192*8192*32", 1);
        texts(x, "8192*8192*64+5", 5);
        texts(x, "8192*8192*32+8192*8192*32+6", 6);
        texts(x, "8192*8192*32-1-(8192*8192*32)+9", 8);
        texts(x, "9999*9999*9999/9999/9999+9000", 9000 + 9999 * 9999 * 9999 / 9999 / 9999);
        texts(x, "9999*9999*30%9999", Math.max(0, 9999 * 9999 * 30 % 9999));
        texts(x, "0-9999*9999*30%9999", Math.max(0, -(9999 * 9999 * 30 % 9999)));
        texts(x, "(0-7)%3+5", 4);
        texts(x, "7%(0-3)+5", 6);
        texts(x, "(0-7)/2+9", 6);
        texts(x, "7/(0-2)+9", 6);
        texts(x, "(0-7)/(0-2)", 3);
    }

    private static void byNothing() {
        NamedPrices x = told();
        texts(x, "7/0", 0);
        texts(x, "7%0", 0);
        texts(x, "0/0", 0);
        texts(x, "0%0", 0);
        texts(x, "(0-7)/0+4", 4);
        texts(x, "(0-7)%0+4", 4);
        texts(x, "8192*8192*32/0+4", 4);
        texts(x, "8192*8192*32%0+4", 4);
        texts(x, "v/(v-7)", 0);
        texts(x, "v%(v-7)", 0);
        texts(x, "5/0*9+2", 2);
        texts(x, "0&7/0|1", 1);
    }

    /** What is not 0 is true, below 0, too; all are 1 or 0. */
    private static void truths() {
        NamedPrices x = told();
        texts(x, "(0-5)&(0-7)", 1);
        texts(x, "(0-5)&0", 0);
        texts(x, "0&(0-5)", 0);
        texts(x, "0&0", 0);
        texts(x, "(0-5)|0", 1);
        texts(x, "0|(0-5)", 1);
        texts(x, "0|0", 0);
        texts(x, "8192*8192*32|0", 1);
        texts(x, "!(0-1)", 0);
        texts(x, "!!(0-1)", 1);
        texts(x, "!0", 1);
        texts(x, "!9999", 0);
        texts(x, "(0-2)<(0-1)", 1);
        texts(x, "(0-1)<(0-1)", 0);
        texts(x, "(0-1)>(0-2)", 1);
        texts(x, "(0-1)>(0-1)", 0);
        texts(x, "(0-1)=(0-1)", 1);
        texts(x, "(0-1)=1", 0);
        texts(x, "(8192*8192*32)<(8192*8192*32-1)", 1);
        texts(x, "(8192*8192*32)>(8192*8192*32-1)", 0);
        texts(x, "2&4", 1);
        texts(x, "2|4", 1);
        texts(x, "(1<2)+(3=3)+(5>4)+(6&7)+(8|0)+!0", 6);
    }

    /** Number 1, who comes 0 of 9, of a KIND; behind one more. */
    private static NamedPrices second(int kind, int pq) {
        NamedPrices x = new NamedPrices();
        x.person(0, 0, 11);
        x.person(kind, 0, pq);
        return x;
    }

    private static void namers() {
        NamedPrices x = second(0, 9);
        Due.is("NAMER: names(MAX)", x.voice(1, 0, MAX), MIN);
        Due.is("NAMER: names(-1)", x.voice(1, 0, -1), 0);
        Due.is("NAMER: names(MIN)", x.voice(1, 0, MIN), MIN + 1);
        Due.is("NAMER: buys(MAX)", x.voice(1, 1, MAX), 0);
        Due.is("NAMER: buys(MAX - 1)", x.voice(1, 1, MAX - 1), -2);
        Due.is("NAMER: buys(2^30 - 1)", x.voice(1, 1, (1 << 30) - 1), MIN);
        Due.is("NAMER: minds(MIN) by -1", x.voice(1, 3, MIN), MIN);
        Due.is("NAMER: minds(MAX) by -1", x.voice(1, 3, MAX), -MAX);
        NamedPrices y = second(0, 99);
        Due.is("NAMER: pays(2^30 - 1)", y.voice(1, 2, (1 << 30) - 1), MIN - 9);
        Due.is("what wraps is no ERROR", x.told(1) + y.told(1), 0);
        NamedPrices z = second(0, 29);
        Due.is("NAMER: minds(MIN) by 1", z.voice(1, 3, MIN), MIN);
    }

    private static void others() {
        NamedPrices x = second(1, 9);
        Due.is("TRUE: names(MAX - 5)", x.voice(1, 0, MAX - 5), MIN);
        Due.is("TRUE: minds(MIN)", x.voice(1, 3, MIN), MIN + 14);
        Due.is("TRUE: minds(-MAX)", x.voice(1, 3, -MAX), MAX + 14);
        x.become(1, 2);
        Due.is("HIGH: buys(2^30 - 6): 0 - MIN", x.voice(1, 1, (1 << 30) - 6), MIN);
        x.become(1, 3);
        Due.is("LOW: names(MIN)", x.voice(1, 0, MIN), MIN / 2 + 6);
        Due.is("LOW: names(MAX)", x.voice(1, 0, MAX), MAX / 2 + 6);
        Due.is("LOW: pays(MIN)", x.voice(1, 2, MIN), (MIN + 12) ^ 1);
        x.become(1, 4);
        Due.is("SPITE: pays(MAX)", x.voice(1, 2, MAX), 2);
        x.become(1, 6);
        Due.is("BEST: names(2^30)", x.voice(1, 0, 1 << 30), 3 * ((1 << 30) + 6));
        Due.is("BEST: minds(MIN)", x.voice(1, 3, MIN), MIN + 42 - 36);
        x.become(1, 5);
        Due.is("TOLD: buys(MAX)", x.voice(1, 1, MAX), 17);
    }

    /** The z ahead of another: 1103515245 has an int that undoes it. */
    private static int ahead(int z) {
        int undo = 1;
        for (int i = 0; i < 5; i++) {
            undo *= 2 - 1103515245 * undo;
        }
        return (z - 12345) * undo;
    }

    private static void draws() {
        int[] made = {0, 1, 255, 256, 511, 512, -1, -256, -257, MIN, MIN + 255, MIN + 256, MAX, 4607};
        for (int z : made) {
            for (int q = 1; q <= 9; q++) {
                int rest = (z >>> 8) % q;
                for (int p = 0; p <= q; p++) {
                    NamedPrices x = new NamedPrices();
                    x.person(0, 0, 11);
                    x.person(0, 0, 10 * p + q);
                    x.thing(0, 0);
                    x.worth(1, 0, 1);
                    x.seed(ahead(z));
                    String said = "a draw of " + z + ", COMES " + p + " of " + q;
                    Due.is(said, x.years(1), rest < p ? 1 : 0);
                    Due.is(said + ": z", x.count(7), z);
                }
            }
        }
    }

    private static void drawsInTurn() {
        NamedPrices x = new NamedPrices();
        for (int i = 0; i < 4; i++) {
            x.person(0, 0, 9);
        }
        x.thing(1, 0);
        x.thing(3, 0);
        x.seed(MAX);
        int z = Towns.drawn(MAX, 6);
        Due.is("nobody comes: years(1)", x.years(1), 0);
        Due.is("six draws", x.count(7), z);
        Due.is("seed(5): what it was", x.seed(5), z);
        Due.is("count(7)", x.count(7), 5);
    }

    /** What a SHEET of so many bits holds of a number, as one who is TRUE would NAME it. */
    private static void lowestBits() {
        int[][] runs = {{8, 127, 127}, {8, 256, 0}, {8, 383, 127}, {8, MIN, 0}, {8, MAX - 255, 0},
            {8, -129, 127}, {16, 65536, 0}, {16, 75535, 9999}, {16, -55537, 9999}, {16, MIN, 0},
            {32, 9999, 9999}, {32, 0, 0}};
        for (int[] run : runs) {
            NamedPrices x = new NamedPrices();
            x.person(1, 0, 11);
            x.thing(0, 0);
            x.sheet(0, run[0], 1);
            x.put(0, 0, run[1]);
            x.worth(0, 0, run[2]);
            String said = run[1] + " in " + run[0] + " bits";
            Due.is(said + ": judge(0)", x.judge(0), 1);
            x.worth(0, 0, 5000);
            Due.is(said + ": worths(0, 0)", x.worths(0, 0), 1);
            Due.is(said + ": WORTH", x.worth(0, 0, 0), run[2]);
        }
        int[][] off = {{8, 128}, {8, 255}, {8, -1}, {8, 200}, {16, 32768}, {16, 65535}, {16, -1},
            {16, 10000}, {32, 10000}, {32, -1}, {32, MIN}, {32, MAX}, {32, 65536 + 7}};
        for (int[] run : off) {
            NamedPrices x = new NamedPrices();
            x.person(1, 0, 11);
            x.thing(0, 0);
            x.sheet(0, run[0], 1);
            x.put(0, 0, run[1]);
            Due.is(run[1] + " in " + run[0] + " bits can't be", x.worths(0, 0), 0);
        }
    }

    /** The n lowest bytes, the lowest first, of words below 0, too. */
    private static void words() {
        NamedPrices x = told();
        for (int n = 1; n <= 8; n++) {
            long word = 0x3837363534333231L;
            Due.is("feed(.., " + n + ")", x.feed(n == 8 ? word : word | -1L << (8 * n), n), n);
            Due.is("text(0)", x.text(0), n <= 4 ? 1 : -14);
            Due.is("named(0)", x.named(0), 1234 / (n == 1 ? 1000 : n == 2 ? 100 : n == 3 ? 10 : 1));
        }
        Due.is("feed(-1L, 8)", x.feed(-1L, 8), 8);
        Due.is("no TEXT begins with that", x.text(0), -10);
        x.feed(0x76L | 0x80L << 56, 8);
        Due.is("no TEXT goes on with a 0", x.text(0), -11);
    }
}
