/** Promises 15 to 17: feed, text, untell; and what TEXTS say. */
public final class TextsTest {
    public static void main(String[] args) {
        feed();
        faults();
        oneBehindAnother();
        worked();
        nobodyElse();
        mendingNames();
        text();
        untell();
        Due.end();
    }

    private static void feed() {
        NamedPrices x = new NamedPrices();
        Due.is("feed(0, 0)", x.feed(0, 0), Due.BEYOND);
        Due.is("feed(0, 9)", x.feed(0, 9), Due.BEYOND);
        Due.is("feed(0, -1)", x.feed(0, -1), Due.BEYOND);
        Due.is("feed(0, MIN)", x.feed(0, Integer.MIN_VALUE), Due.BEYOND);
        Due.is("feed(-1L, 8)", x.feed(-1L, 8), 8);
        for (int i = 2; i <= 7; i++) {
            Due.is("feed(0, 8)", x.feed(0, 8), 8 * i);
        }
        Due.is("feed(0, 5): 61 bytes", x.feed(0, 5), Due.FULL);
        Due.is("feed: count(4)", x.count(4), 56);
        Due.is("feed(0, 4): 60 bytes", x.feed(0, 4), 60);
        Due.is("feed(0, 1)", x.feed(0, 1), Due.FULL);
        Due.is("feed(0, 9): BEYOND is asked first", x.feed(0, 9), Due.BEYOND);
        Due.is("feed: told(4)", x.told(4), 2);
        // 'v' and '+' and '1': the lowest byte comes first, those above the n-th don't come.
        NamedPrices y = new NamedPrices();
        y.feed(0x7A7A7A312B76L, 3);
        Due.is("feed: v+1", y.text(0), 1);
        NamedPrices z = new NamedPrices();
        Due.feed(z, "12+");
        z.feed(0x3736353433323176L, 1);
        Due.is("feed: the words stand one behind the other", z.count(4), 4);
        Due.is("feed: 12+v", z.text(0), 1);
    }

    private static void fault(int use, String text, int due) {
        NamedPrices x = new NamedPrices();
        Due.feed(x, text);
        Due.is("text(" + use + ") of " + text, x.text(use), due < 0 ? 1 : -10 - due);
        Due.is("count(4) behind " + text, x.count(4), 0);
        Due.is("untell(" + use + ") behind " + text, x.untell(use), due < 0 ? 1 : 0);
        Due.is("told(1) behind " + text, x.told(1), 0);
    }

    private static void faults() {
        String[] texts = {"v", "m", "p", "r", "y", "0", "9999", "0000", "v+m-p*r/y%2", "(v)",
            "!v", "!!!!!v", "(((((v)))))", "!(!(!v))", "1<2&3=3|4>5", "(1<2)<3", "!v+!v*!v",
            "(1)+(2)*((3))", "!(v)+!!!!!1", "((((1<2))<3))"};
        for (String text : texts) {
            fault(0, text, -1);
        }
        Object[][] off = {{"", 0}, {"+", 0}, {"s", 0}, {"c", 0}, {"u", 0}, {" v", 0}, {"v ", 1},
            {"v v", 1}, {"vm", 1}, {"v1", 1}, {"1v", 1}, {"12345", 4}, {"v+", 2}, {"v+*", 2},
            {"(", 1}, {"(v", 2}, {"((v)", 4}, {"v)", 1}, {"()", 1}, {"!", 1}, {"v!", 1},
            {"1<2<3", 3}, {"1<2=3", 3}, {"1=2>3", 3}, {"1<2+3*4>5", 7}, {"1<2&3<4<5", 7},
            {"!!!!!!v", 5}, {"((((((v))))))", 5}, {"!(!(!(v)))", 5}, {"(((((!v)))))", 5},
            {"!!!!!(v)", 5}, {"v+(v", 4}, {"v(", 1}, {"(v)(v)", 3}, {"(v)v", 3}, {"--1", 0},
            {"1--1", 2}, {"1+", 2}, {"1|", 2}, {"v\u0080", 1}, {"\u00f6", 0}, {"v\u0000", 1}};
        for (Object[] one : off) {
            fault(0, (String) one[0], (Integer) one[1]);
        }
        for (String text : new String[] {"v", "s", "c", "u", "r", "v*s<c+u-r"}) {
            fault(1, text, -1);
        }
        fault(0, "!v+!!!!!!v", 8);
        fault(0, "v+v*v+v<v&!!!!!!v", 15);
        fault(0, "(v)+((((((v))))))", 9);
        fault(1, "m", 0);
        fault(1, "v+p", 2);
        fault(1, "v+y", 2);
        String sixty = "1+1+1+1+1+1+1+1+1+1+1+1+1+1+1+1+1+1+1+1+1+1+1+1+1+1+1+1+1+1+";
        fault(0, sixty, 60);
        fault(0, sixty.substring(0, 58) + "11", -1);
    }

    /** What a TEXT is, as one who is TOLD names by it (held within 0 .. 9999). */
    private static void worked() {
        NamedPrices x = new NamedPrices();
        x.person(5, 0, 11);
        x.person(0, 0, 11);
        x.person(0, 0, 11);
        x.thing(0, 40);
        x.worth(0, 0, 90);
        x.worth(1, 0, 25);
        x.worth(2, 0, 31);
        x.rule(0, 7);
        x.years(3);
        x.price(0, 40);
        Object[][] due = {{"v", 90}, {"m", 31}, {"p", 40}, {"r", 7}, {"y", 3}, {"2+3*4", 14},
            {"(2+3)*4", 20}, {"20-3-4", 13}, {"100/7/2", 7}, {"100/(7/2)", 33}, {"17%5", 2},
            {"7/0+1", 1}, {"7%0+2", 2}, {"(0-7)/2+9", 6}, {"(0-7)%2+9", 8}, {"0-1", 0},
            {"9999+1", 9999}, {"9999*9999", 9999},
            {"9999*9999*99%9000", held(9999 * 9999 * 99 % 9000)},
            {"9999*9999*31%9000", held(9999 * 9999 * 31 % 9000)},
            {"65*9999*9999/9999/9999", held(65 * 9999 * 9999 / 9999 / 9999)},
            {"0|0", 0}, {"0|5", 1}, {"7|5", 1}, {"7&5", 1}, {"7&0", 0},
            {"1|0&0", 1}, {"(1|0)&0", 0}, {"!0", 1}, {"!5", 0}, {"!!5", 1}, {"!0+5", 6},
            {"!(0+5)", 0}, {"3<4", 1}, {"4<4", 0}, {"4=4", 1}, {"4=5", 0}, {"5>4", 1}, {"4>4", 0},
            {"1+1<1*3", 1}, {"(2<1)=0", 1}, {"3=3&4", 1}, {"2&2=2", 1}, {"8", 8},
            {"0|7+0", 1}, {"v-m*2+p%7-y", 30}, {"!v|m>p|r<y", 0}, {"0007", 7}, {"10-2+3", 11},
            {"2*9%4", 2}, {"9/2*2", 8}};
        for (Object[] one : due) {
            Due.feed(x, (String) one[0]);
            Due.is("text(0) of " + one[0], x.text(0), 1);
            Due.is("named(0) by " + one[0], x.named(0), (Integer) one[1]);
        }
    }

    private static int held(int v) {
        return Math.max(0, Math.min(9999, v));
    }

    /** What a TEXT with a FAULT left open isn't open in the next. */
    private static void oneBehindAnother() {
        NamedPrices x = new NamedPrices();
        String[] texts = {"(((((", "v", "!!!!!", "!!!!!v", "1+(2*3", "(((((v)))))", "12", "34",
            "v<", "v<v", "(v", "v)"};
        int[] due = {-15, 1, -15, 1, -16, 1, 1, 1, -12, 1, -12, -11};
        for (int i = 0; i < texts.length; i++) {
            Due.feed(x, texts[i]);
            Due.is("text(0) of " + texts[i], x.text(0), due[i]);
        }
    }

    private static void nobodyElse() {
        NamedPrices x = new NamedPrices();
        x.person(5, 0, 11);
        x.thing(0, 40);
        x.worth(0, 0, 90);
        Due.feed(x, "m");
        x.text(0);
        Due.is("m is 0 without others", x.named(0), 0);
        x.person(0, 0, 11);
        Due.is("m is 0 of what is worth nothing", x.named(0), 0);
        x.worth(1, 0, 3);
        Due.is("m is not the OWNER's", x.named(0), 3);
    }

    private static void mendingNames() {
        NamedPrices x = new NamedPrices();
        x.person(0, 1000, 11);
        x.person(0, 1000, 11);
        x.thing(0, 100);
        x.worth(1, 0, 200);
        x.rule(1, 40);
        x.rule(4, 30);
        x.rule(0, 0);
        Due.feed(x, "0");
        x.text(1);
        x.years(1);
        Due.is("it moved", x.thingIs(0, 0), 1);
        Due.is("it is 60 SOUND", x.thingIs(0, 2), 60);
        x.rule(0, 13);
        Object[][] due = {{"v=120", 1}, {"s=60", 1}, {"c=30", 1}, {"u=900", 1}, {"r=13", 1},
            {"v=s", 0}, {"0-5", 1}, {"0", 0}, {"9999", 1}, {"u-900", 0}};
        for (Object[] one : due) {
            Due.feed(x, (String) one[0]);
            Due.is("text(1) of " + one[0], x.text(1), 1);
            Due.is("mended(0) by " + one[0], x.mended(0), (Integer) one[1]);
        }
    }

    private static void text() {
        NamedPrices x = new NamedPrices();
        x.person(5, 0, 11);
        x.thing(0, 40);
        x.worth(0, 0, 90);
        Due.feed(x, "v+1");
        Due.is("text(2): BEYOND", x.text(2), Due.BEYOND);
        Due.is("text(-1): BEYOND", x.text(-1), Due.BEYOND);
        Due.is("text(2): THE TAPE stays", x.count(4), 3);
        Due.is("text(0)", x.text(0), 1);
        Due.is("text(0): THE TAPE is empty", x.count(4), 0);
        Due.is("named(0)", x.named(0), 91);
        Due.feed(x, "v+2)");
        Due.is("text(0) with a FAULT", x.text(0), -13);
        Due.is("THE TAPE is empty, too", x.count(4), 0);
        Due.is("the one ahead stays", x.named(0), 91);
        Due.is("text(0) of nothing", x.text(0), -10);
        Due.is("the one ahead stays still", x.named(0), 91);
        Due.feed(x, "v+3");
        Due.is("text(1) doesn't know", x.text(1), 1);
        Due.is("the other USE stays", x.named(0), 91);
        Due.feed(x, "p");
        Due.is("text(0) in place of one ahead", x.text(0), 1);
        Due.is("named(0) by it", x.named(0), 40);
        Due.is("no ERROR but BEYOND", x.told(1), 2);
    }

    private static void untell() {
        NamedPrices x = new NamedPrices();
        x.person(5, 0, 11);
        x.thing(0, 40);
        x.worth(0, 0, 90);
        Due.is("untell(0): none", x.untell(0), 0);
        Due.feed(x, "p");
        x.text(0);
        Due.is("untell(1): none", x.untell(1), 0);
        Due.is("untell(0)", x.untell(0), 1);
        Due.is("untell(0) again", x.untell(0), 0);
        Due.is("named(0) without", x.named(0), 90);
        Due.is("untell(-1)", x.untell(-1), Due.BEYOND);
        Due.is("untell(2)", x.untell(2), Due.BEYOND);
        Due.feed(x, "0");
        x.text(0);
        Due.is("untell(0): a TEXT of 0 is one", x.untell(0), 1);
    }
}
