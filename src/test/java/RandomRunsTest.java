import java.util.Random;

/** Long runs of calls, by a seed that is told, on the class and on PlainTown: no answer differs. */
public final class RandomRunsTest {
    private static final int RUNS = 1500;
    private static final int CALLS = 512;
    private static final String[] TEXTS = {
        "v", "m+1", "p*2-v", "v+y%7", "(v|0)*m", "!v*9+!(m<p)", "v*v*v", "r*10", "p/(y-3)",
        "s<80", "u>c*3&s<90", "!(s=90)", "v/c>r", "0", "1", "((((v))))", "!!!!!v", "!!!!!!v",
        "12345", "v<m<p", "v+", "(v", "v)", "", "k", "9999*9999", "0-1", "v%0", "v m", "2=2=2"};
    private static final String SIGNS = "0123456789vmpryscu!()+-*/%<=>|&";

    private final Random random;
    private final NamedPrices x = new NamedPrices();
    private final PlainTown y = new PlainTown();
    private final StringBuilder said = new StringBuilder();
    private boolean differs;

    private RandomRunsTest(long seed) {
        random = new Random(seed);
    }

    public static void main(String[] args) {
        int runs = args.length > 0 ? Integer.parseInt(args[0]) : RUNS;
        for (int run = 0; run < runs; run++) {
            RandomRunsTest one = new RandomRunsTest(run);
            one.go();
            if (one.differs) {
                System.out.println("run " + run + ": " + one.said);
                Due.holds("run " + run + " is as PlainTown's", false);
                break;
            }
        }
        Due.end();
    }

    private void go() {
        settle();
        for (int i = 0; i < CALLS && !differs; i++) {
            int dice = random.nextInt(60);
            act(dice < 43 ? dice : 42 - random.nextInt(28));
        }
    }

    /** Most runs begin with some PEOPLE and THINGS, or few calls would find any. */
    private void settle() {
        int people = random.nextInt(7);
        for (int i = 0; i < people; i++) {
            act(0);
        }
        int things = random.nextInt(13);
        for (int i = 0; i < things; i++) {
            act(6);
            for (int k = 0; k < people; k++) {
                int v = random.nextInt(random.nextBoolean() ? 300 : 10000);
                said("worth", x.worth(k, i, v), y.worth(k, i, v), k, i, v);
            }
        }
    }

    private void said(String call, long got, long due, long... args) {
        said.append(call).append(java.util.Arrays.toString(args)).append(" = ").append(got);
        if (got != due) {
            said.append(", due is ").append(due);
            differs = true;
        }
        said.append("\n");
    }

    /** Mostly from low to high, sometimes beside it. */
    private int some(int low, int high) {
        int dice = random.nextInt(120);
        if (dice == 0) {
            return low - 1;
        }
        if (dice == 1) {
            return high + 1;
        }
        if (dice == 2) {
            return random.nextInt();
        }
        if (dice == 3) {
            return random.nextBoolean() ? Integer.MIN_VALUE : Integer.MAX_VALUE;
        }
        if (dice < 10) {
            return random.nextBoolean() ? low : high;
        }
        return low + random.nextInt(high - low + 1);
    }

    private int thing() {
        return some(0, Math.max(0, x.count(1) - (random.nextInt(40) == 0 ? 0 : 1)));
    }

    private int amount() {
        return random.nextBoolean() ? some(0, 300) : some(0, 9999);
    }

    private void act(int what) {
        if (what < 13) {
            actOnPeople(what);
        } else if (what < 26) {
            actOnYears(what);
        } else if (what < 33) {
            actOnTown(what);
        } else {
            actOnRest(what);
        }
    }

    private void actOnPeople(int what) {
        int a = 0;
        switch (what) {
            case 0: {
                int q = some(1, 9);
                int pq = random.nextInt(30) == 0 ? some(0, 99) : some(0, Math.abs(q % 10)) * 10 + q;
                int purse = random.nextBoolean() ? some(0, 2000) : some(0, 999999);
                a = some(0, 6);
                said("person", x.person(a, purse, pq), y.person(a, purse, pq), a, purse, pq);
                break;
            }
            case 1:
                two("personIs", pick(), some(0, 6));
                break;
            case 2:
                two("as", pick(), some(0, 6));
                break;
            case 3:
                two("become", pick(), some(0, 6));
                break;
            case 4:
                two("purse", pick(), random.nextBoolean() ? some(0, 999) : some(0, 999999));
                break;
            case 5:
            case 6:
                two("thing", pick(), amount());
                break;
            case 7:
                two("thingIs", thing(), some(0, 5));
                break;
            case 8: {
                a = pick();
                int t = thing();
                int v = amount();
                said("worth", x.worth(a, t, v), y.worth(a, t, v), a, t, v);
                break;
            }
            case 9:
                two("price", thing(), amount());
                break;
            case 10:
                two("keep", thing(), some(0, 1));
                break;
            case 11: {
                a = thing();
                int b = thing();
                int v = amount();
                said("pair", x.pair(a, b, v), y.pair(a, b, v), a, b, v);
                break;
            }
            default:
                two("pairIs", some(0, Math.max(0, x.count(2) - 1)), some(0, 3));
        }
    }

    private int pick() {
        return some(0, Math.max(0, x.count(0) - (random.nextInt(40) == 0 ? 0 : 1)));
    }

    private void two(String call, int a, int b) {
        long got;
        long due;
        switch (call) {
            case "personIs":
                got = x.personIs(a, b);
                due = y.personIs(a, b);
                break;
            case "as":
                got = x.as(a, b);
                due = y.as(a, b);
                break;
            case "become":
                got = x.become(a, b);
                due = y.become(a, b);
                break;
            case "purse":
                got = x.purse(a, b);
                due = y.purse(a, b);
                break;
            case "thing":
                got = x.thing(a, b);
                due = y.thing(a, b);
                break;
            case "thingIs":
                got = x.thingIs(a, b);
                due = y.thingIs(a, b);
                break;
            case "price":
                got = x.price(a, b);
                due = y.price(a, b);
                break;
            case "keep":
                got = x.keep(a, b);
                due = y.keep(a, b);
                break;
            case "pairIs":
                got = x.pairIs(a, b);
                due = y.pairIs(a, b);
                break;
            default:
                throw new IllegalArgumentException(call);
        }
        said(call, got, due, a, b);
    }

    private void feed(String text) {
        for (int i = 0; i < text.length(); i += 8) {
            int n = Math.min(8, text.length() - i);
            // What stands above the n lowest bytes doesn't matter.
            long word = n == 8 ? 0 : random.nextLong() << (8 * n);
            for (int k = 0; k < n; k++) {
                word |= (long) (text.charAt(i + k) & 255) << (8 * k);
            }
            said("feed", x.feed(word, n), y.feed(word, n), word, n);
        }
    }

    private void actOnYears(int what) {
        switch (what) {
            case 13: {
                int a = some(0, 4);
                int[] high = {99, 99, 2, 9, 999};
                int v = a < 0 || a > 4 ? 0 : some(0, a == 4 ? some(1, 60) > 30 ? 30 : 999 : high[a]);
                said("rule", x.rule(a, v), y.rule(a, v), a, v);
                break;
            }
            case 14: {
                int n = some(1, 8);
                long word = random.nextLong();
                if (random.nextInt(4) == 0) {
                    said("feed", x.feed(word, n), y.feed(word, n), word, n);
                } else {
                    feed(random.nextBoolean() ? anyText() : oneOf(TEXTS));
                }
                break;
            }
            case 15: {
                int use = some(0, 1);
                if (random.nextInt(3) > 0) {
                    use = random.nextInt(2);
                    while (x.count(4) > 0) {
                        said("text", x.text(use), y.text(use), use);
                    }
                    feed(random.nextBoolean() ? anyText() : oneOf(TEXTS));
                }
                said("text", x.text(use), y.text(use), use);
                break;
            }
            case 16: {
                int use = some(0, 1);
                said("untell", x.untell(use), y.untell(use), use);
                break;
            }
            case 17: {
                int t = thing();
                said("named", x.named(t), y.named(t), t);
                break;
            }
            case 18: {
                int t = thing();
                said("mended", x.mended(t), y.mended(t), t);
                break;
            }
            case 19: {
                int n = random.nextInt(3) > 0 ? some(1, 3) : some(1, 40);
                said("years", x.years(n), y.years(n), n);
                break;
            }
            case 20: {
                int v = random.nextInt();
                said("seed", x.seed(v), y.seed(v), v);
                break;
            }
            case 21:
            case 22: {
                int t = thing();
                int price = amount();
                int part = some(0, 1);
                if (what == 21) {
                    said("taken", x.taken(t, price, part), y.taken(t, price, part), t, price, part);
                } else {
                    said("gain", x.gain(t, price, part), y.gain(t, price, part), t, price, part);
                }
                break;
            }
            case 23: {
                int t = thing();
                said("best", x.best(t), y.best(t), t);
                break;
            }
            case 24: {
                int t = thing();
                said("right", x.right(t), y.right(t), t);
                break;
            }
            default: {
                int k = some(0, 6);
                said("town", x.town(k), y.town(k), k);
            }
        }
    }

    private String oneOf(String[] texts) {
        return texts[random.nextInt(texts.length)];
    }

    /** A text by the grammar, sometimes with a byte that is off. */
    private String anyText() {
        StringBuilder made = new StringBuilder();
        make(made, 0);
        if (random.nextInt(3) == 0 && made.length() > 0) {
            char sign = random.nextInt(9) == 0 ? (char) random.nextInt(256)
                : SIGNS.charAt(random.nextInt(SIGNS.length()));
            made.setCharAt(random.nextInt(made.length()), sign);
        }
        if (random.nextInt(6) == 0) {
            made.setLength(random.nextInt(made.length() + 1));
        }
        return made.toString();
    }

    private void make(StringBuilder made, int depth) {
        int dice = random.nextInt(depth > 6 ? 4 : 10);
        if (dice < 2) {
            made.append(random.nextInt(random.nextBoolean() ? 12 : 10000));
        } else if (dice < 4) {
            made.append(SIGNS.charAt(10 + random.nextInt(8)));
        } else if (dice == 4) {
            made.append('!');
            make(made, depth + 3);
        } else if (dice == 5) {
            made.append('(');
            make(made, depth + 1);
            made.append(')');
        } else {
            make(made, depth + 2);
            made.append("+-*/%<=>|&".charAt(random.nextInt(10)));
            make(made, depth + 2);
        }
    }

    private void actOnTown(int what) {
        switch (what) {
            case 26: {
                int a = pick();
                int k = some(0, 2);
                said("firm", x.firm(a, k), y.firm(a, k), a, k);
                break;
            }
            case 27: {
                int n = some(0, 40);
                int k = some(0, 6);
                said("then", x.then(n, k), y.then(n, k), n, k);
                break;
            }
            case 28: {
                int n = some(0, 40);
                int t = thing();
                said("whose", x.whose(n, t), y.whose(n, t), n, t);
                break;
            }
            case 29: {
                int n = random.nextInt(20) == 0 ? some(0, 40) : some(0, 2);
                said("part", x.part(n), y.part(n), n);
                break;
            }
            case 30: {
                int a = pick();
                int voice = some(0, 3);
                int v = random.nextBoolean() ? some(-9, 99) : random.nextInt();
                said("voice", x.voice(a, voice, v), y.voice(a, voice, v), a, voice, v);
                // A TRACE is gone with the next voice, so many are looked at at once.
                if (random.nextBoolean()) {
                    said("count", x.count(6), y.count(6), 6);
                    int i = random.nextInt(x.count(6) + 1);
                    said("body", x.body(i), y.body(i), i);
                }
                break;
            }
            case 31: {
                int i = some(0, Math.max(0, x.count(6) - 1));
                said("body", x.body(i), y.body(i), i);
                break;
            }
            default: {
                int a = some(0, 3);
                int bits = random.nextInt(20) == 0 ? some(0, 33) : 8 * new int[] {0, 1, 2, 4}
                    [random.nextInt(12) == 0 ? 0 : 1 + random.nextInt(3)];
                int n = some(0, 24);
                said("sheet", x.sheet(a, bits, n), y.sheet(a, bits, n), a, bits, n);
            }
        }
    }

    private void actOnRest(int what) {
        switch (what) {
            case 33: {
                int a = some(0, 3);
                int i = some(0, random.nextBoolean() ? 23 : 5);
                int v = random.nextInt(4) == 0 ? random.nextInt() : amount();
                if (random.nextBoolean() && x.count(1) > 0) {
                    int t = random.nextInt(x.count(1));
                    i = t;
                    v = x.named(t);
                }
                said("put", x.put(a, i, v), y.put(a, i, v), a, i, v);
                break;
            }
            case 34: {
                int a = some(0, 3);
                int b = random.nextBoolean() ? a : some(0, 3);
                int i = some(0, 12);
                int j = some(0, 12);
                int n = some(0, 12);
                said("move", x.move(a, i, b, j, n), y.move(a, i, b, j, n), a, i, b, j, n);
                break;
            }
            case 35: {
                int a = some(0, 3);
                int who = pick();
                said("worths", x.worths(a, who), y.worths(a, who), a, who);
                break;
            }
            case 36: {
                int a = some(0, 3);
                said("judge", x.judge(a), y.judge(a), a);
                break;
            }
            case 37:
                if (random.nextInt(3) == 0) {
                    said("image", x.image(), y.image());
                }
                break;
            case 38:
                if (random.nextInt(4) == 0) {
                    said("restore", x.restore(), y.restore());
                }
                break;
            case 39: {
                int v = some(0, 12);
                said("tell", x.tell(v), y.tell(v), v);
                break;
            }
            case 40: {
                int who = pick();
                if (random.nextInt(3) > 0) {
                    while (x.count(5) > 0) {
                        said("check", x.check(who), y.check(who), who);
                    }
                    for (int t = 0; t < x.count(1); t++) {
                        if (x.thingIs(t, 0) == who && random.nextInt(8) > 0) {
                            said("tell", x.tell(t), y.tell(t), t);
                        }
                    }
                }
                said("check", x.check(who), y.check(who), who);
                break;
            }
            case 41: {
                int k = some(0, 7);
                said("count", x.count(k), y.count(k), k);
                break;
            }
            default: {
                int k = some(1, 6);
                said("told", x.told(k), y.told(k), k);
            }
        }
    }
}
