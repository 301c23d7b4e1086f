import java.math.BigInteger;
import java.util.ArrayDeque;
import java.util.ArrayList;
import java.util.Collections;
import java.util.List;
import java.util.TreeSet;

/** The document told a second time, with Java's library, for runs that are compared. */
final class PlainTown {
    static final class Thing {
        int owner;
        int price;
        int sound = 100;
        boolean kept;
        int[] worth = new int[6];

        Thing copy() {
            Thing other = new Thing();
            other.owner = owner;
            other.price = price;
            other.sound = sound;
            other.kept = kept;
            other.worth = worth.clone();
            return other;
        }
    }

    static final class State {
        List<PlainFolk.Namer> people = new ArrayList<>();
        List<Thing> things = new ArrayList<>();
        List<int[]> pairs = new ArrayList<>();
        int[] rules = {5, 10, 0, 1, 20};
        String[] texts = {null, null};
        StringBuilder tape = new StringBuilder();
        List<Integer> waiting = new ArrayList<>();
        int years;
        int moves;
        long pot;
        int z = 1;

        State copy() {
            State other = new State();
            for (PlainFolk.Namer one : people) {
                other.people.add(PlainFolk.as(one, PlainFolk.kindOf(one)));
            }
            for (Thing thing : things) {
                other.things.add(thing.copy());
            }
            other.pairs.addAll(pairs);
            other.rules = rules.clone();
            other.texts = texts.clone();
            other.tape.append(tape);
            other.waiting.addAll(waiting);
            other.years = years;
            other.moves = moves;
            other.pot = pot;
            other.z = z;
            return other;
        }
    }

    private static final String[] NAMES = {"vmpry", "vscur"};

    private State s = new State();
    private State kept;
    private int images;
    private List<Integer> trace = new ArrayList<>();
    private final long[] errors = new long[7];
    private final Object[] sheets = new Object[4];

    private long fail(int k) {
        errors[k]++;
        return -1000000000L - k;
    }

    private long beyond() {
        return fail(1);
    }

    private static boolean in(int v, int low, int high) {
        return low <= v && v <= high;
    }

    private boolean noPerson(int i) {
        return !in(i, 0, s.people.size() - 1);
    }

    private boolean noThing(int i) {
        return !in(i, 0, s.things.size() - 1);
    }

    // ---- people, things

    long person(int kind, int purse, int pq) {
        int p = pq / 10;
        int q = pq - 10 * p;
        if (!in(kind, 0, 6) || !in(purse, 0, 999999) || pq < 0 || !in(q, 1, 9) || !in(p, 0, q)) {
            return beyond();
        }
        if (s.people.size() == 6) {
            return fail(4);
        }
        PlainFolk.Namer one = PlainFolk.ofKind(kind);
        one.purse = purse;
        one.p = p;
        one.q = q;
        one.n = s.people.size();
        s.people.add(one);
        return one.n;
    }

    long personIs(int person, int what) {
        if (noPerson(person) || !in(what, 0, 6)) {
            return beyond();
        }
        PlainFolk.Namer one = s.people.get(person);
        List<Thing> own = new ArrayList<>(s.things);
        own.removeIf(t -> t.owner != person);
        switch (what) {
            case 0:
                return PlainFolk.kindOf(one);
            case 1:
                return one.purse;
            case 2:
                return one.p * 10 + one.q;
            case 3:
                return own.size();
            case 4:
                return own.stream().filter(t -> t.kept).count();
            case 5:
                long bits = 0;
                for (int i = 0; i < s.pairs.size(); i++) {
                    Thing a = s.things.get(s.pairs.get(i)[0]);
                    Thing b = s.things.get(s.pairs.get(i)[1]);
                    if (own.contains(a) ^ own.contains(b)) {
                        bits += Math.pow(2, i);
                    }
                }
                return bits;
            default:
                return own.stream().mapToLong(t -> value(t, person)).sum();
        }
    }

    long as(int person, int kind) {
        if (noPerson(person) || !in(kind, 0, 6)) {
            return beyond();
        }
        PlainFolk.Namer one = s.people.get(person);
        if (!PlainFolk.ofKind(kind).getClass().isInstance(one)) {
            return fail(5);
        }
        return one.purse;
    }

    long become(int person, int kind) {
        if (noPerson(person) || !in(kind, 0, 6)) {
            return beyond();
        }
        PlainFolk.Namer one = s.people.get(person);
        s.people.set(person, PlainFolk.as(one, kind));
        return PlainFolk.kindOf(one);
    }

    long purse(int person, int v) {
        if (noPerson(person) || !in(v, 0, 999999)) {
            return beyond();
        }
        long was = s.people.get(person).purse;
        s.people.get(person).purse = v;
        return was;
    }

    long thing(int owner, int price) {
        if (noPerson(owner) || !in(price, 0, 9999)) {
            return beyond();
        }
        if (s.things.size() == 12) {
            return fail(4);
        }
        Thing thing = new Thing();
        thing.owner = owner;
        thing.price = price;
        s.things.add(thing);
        return s.things.size() - 1;
    }

    long thingIs(int thing, int what) {
        if (noThing(thing) || !in(what, 0, 5)) {
            return beyond();
        }
        Thing t = s.things.get(thing);
        switch (what) {
            case 0:
                return t.owner;
            case 1:
                return t.price;
            case 2:
                return t.sound;
            case 3:
                return t.kept ? 1 : 0;
            case 4:
                return value(t, t.owner);
            default:
                for (int i = 0;; i++) {
                    if (value(t, i) == greatest(s, t, -1)) {
                        return i;
                    }
                }
        }
    }

    private static int value(Thing t, int person) {
        return t.worth[person] * t.sound / 100;
    }

    private static int greatest(State s, Thing t, int but) {
        int most = 0;
        for (int i = 0; i < s.people.size(); i++) {
            if (i != but && value(t, i) > most) {
                most = value(t, i);
            }
        }
        return most;
    }

    long worth(int person, int thing, int v) {
        if (noPerson(person) || noThing(thing) || !in(v, 0, 9999)) {
            return beyond();
        }
        long was = s.things.get(thing).worth[person];
        s.things.get(thing).worth[person] = v;
        return was;
    }

    long price(int thing, int v) {
        if (noThing(thing) || !in(v, 0, 9999)) {
            return beyond();
        }
        long was = s.things.get(thing).price;
        s.things.get(thing).price = v;
        return was;
    }

    long keep(int thing, int on) {
        if (noThing(thing) || !in(on, 0, 1)) {
            return beyond();
        }
        Thing t = s.things.get(thing);
        if (on == 1 && !t.kept) {
            if (s.things.stream().filter(o -> o.owner == t.owner && o.kept).count() >= s.rules[3]) {
                return fail(3);
            }
        }
        long was = t.kept ? 1 : 0;
        t.kept = on == 1;
        return was;
    }

    long pair(int one, int other, int bonus) {
        if (noThing(one) || noThing(other) || one == other || !in(bonus, 0, 9999)) {
            return beyond();
        }
        if (s.pairs.size() == 6) {
            return fail(4);
        }
        s.pairs.add(new int[] {one, other, bonus});
        return s.pairs.size() - 1;
    }

    private static int bonusOwner(State s, int[] pair) {
        Thing a = s.things.get(pair[0]);
        Thing b = s.things.get(pair[1]);
        return a.owner != b.owner || a.sound < 50 || b.sound < 50 ? -1 : a.owner;
    }

    long pairIs(int pair, int what) {
        if (!in(pair, 0, s.pairs.size() - 1) || !in(what, 0, 3)) {
            return beyond();
        }
        int[] found = s.pairs.get(pair);
        return what < 3 ? found[what] : bonusOwner(s, found);
    }

    long rule(int rule, int v) {
        int[] high = {99, 99, 2, 9, 999};
        if (!in(rule, 0, 4) || !in(v, 0, high[rule])) {
            return beyond();
        }
        long was = s.rules[rule];
        s.rules[rule] = v;
        return was;
    }

    // ---- texts

    long feed(long word, int n) {
        if (!in(n, 1, 8)) {
            return beyond();
        }
        if (s.tape.length() + n > 60) {
            return fail(4);
        }
        for (int i = 0; i < n; i++) {
            s.tape.append((char) (word & 255));
            word >>= 8;
        }
        return s.tape.length();
    }

    long text(int use) {
        if (!in(use, 0, 1)) {
            return beyond();
        }
        String text = s.tape.toString();
        s.tape.setLength(0);
        int fault = PlainText.fault(text, NAMES[use]);
        if (fault >= 0) {
            return -10 - fault;
        }
        s.texts[use] = text;
        return 1;
    }

    long untell(int use) {
        if (!in(use, 0, 1)) {
            return beyond();
        }
        boolean was = s.texts[use] != null;
        s.texts[use] = null;
        return was ? 1 : 0;
    }

    // ---- years

    long named(int thing) {
        return noThing(thing) ? beyond() : names(s, s.things.get(thing));
    }

    private static int names(State s, Thing t) {
        int v = value(t, t.owner);
        int m = greatest(s, t, t.owner);
        int named;
        switch (PlainFolk.kindOf(s.people.get(t.owner))) {
            case 0:
                named = t.price;
                break;
            case 1:
                named = v;
                break;
            case 2:
                named = 2 * v;
                break;
            case 3:
                named = v / 2;
                break;
            case 4:
                named = m - 1;
                break;
            case 5:
                int[] values = {v, m, t.price, s.rules[0], s.years};
                named = s.texts[0] == null ? v : PlainText.work(s.texts[0], NAMES[0], values);
                break;
            default:
                named = best(s, t, s.rules[0]);
        }
        return named < 0 ? 0 : named > 9999 ? 9999 : named;
    }

    private static boolean mends(State s, Thing t) {
        PlainFolk.Namer owner = s.people.get(t.owner);
        int v = value(t, t.owner);
        if (t.sound >= 100 || owner.purse < s.rules[4]) {
            return false;
        }
        if (s.texts[1] == null) {
            return v / 10 >= s.rules[4];
        }
        int[] values = {v, t.sound, s.rules[4], owner.purse, s.rules[0]};
        return PlainText.work(s.texts[1], NAMES[1], values) != 0;
    }

    long mended(int thing) {
        return noThing(thing) ? beyond() : mends(s, s.things.get(thing)) ? 1 : 0;
    }

    long years(int n) {
        if (!in(n, 1, 40)) {
            return beyond();
        }
        if (s.years + n > 9999) {
            return fail(3);
        }
        for (int i = 0; i < n; i++) {
            year(s);
        }
        return s.moves;
    }

    private static void year(State s) {
        List<Integer> named = new ArrayList<>();
        for (Thing t : s.things) {
            named.add(names(s, t));
        }
        for (int i = 0; i < named.size(); i++) {
            s.things.get(i).price = named.get(i);
        }
        for (Thing t : s.things) {
            PlainFolk.Namer owner = s.people.get(t.owner);
            int due = Math.min(owner.purse, t.price * s.rules[0] / 100);
            owner.purse -= due;
            s.pot = Math.min(s.pot + due, 1999999999L);
        }
        for (Thing t : s.things) {
            if (!t.kept) {
                ask(s, t);
            }
        }
        for (Thing t : s.things) {
            if (mends(s, t)) {
                s.people.get(t.owner).purse -= s.rules[4];
                t.sound = Math.min(100, t.sound + 10);
            }
        }
        share(s);
        s.years++;
    }

    private static void ask(State s, Thing t) {
        int was = t.owner;
        for (PlainFolk.Namer one : s.people) {
            if (one.n == was) {
                continue;
            }
            s.z = s.z * 1103515245 + 12345;
            boolean comes = (s.z >>> 8) % one.q < one.p;
            if (comes && value(t, one.n) > t.price && one.purse >= t.price) {
                PlainFolk.Namer seller = s.people.get(was);
                seller.purse = Math.min(999999, seller.purse + t.price);
                one.purse -= t.price;
                t.owner = one.n;
                t.sound = Math.max(0, t.sound - s.rules[1]);
                s.moves++;
                return;
            }
        }
    }

    private static void share(State s) {
        if (s.people.isEmpty()) {
            return;
        }
        if (s.rules[2] == 1) {
            long each = s.pot / s.people.size();
            for (PlainFolk.Namer one : s.people) {
                one.purse = (int) Math.min(999999, one.purse + each);
                s.pot -= each;
            }
        } else if (s.rules[2] == 2) {
            PlainFolk.Namer poorest =
                Collections.min(s.people, (a, b) -> Integer.compare(a.purse, b.purse));
            poorest.purse = (int) Math.min(999999, poorest.purse + s.pot);
            s.pot = 0;
        }
    }

    long seed(int v) {
        long was = s.z;
        s.z = v;
        return was;
    }

    // ---- prices

    /** Likelihoods as two big numbers, above and below the line. */
    private static BigInteger[] takenAt(State s, Thing t, int price) {
        BigInteger above = BigInteger.ONE;
        BigInteger below = BigInteger.ONE;
        for (PlainFolk.Namer one : s.people) {
            if (one.n != t.owner && value(t, one.n) > price) {
                above = above.multiply(BigInteger.valueOf(one.q - one.p));
                below = below.multiply(BigInteger.valueOf(one.q));
            }
        }
        return new BigInteger[] {below.subtract(above), below};
    }

    private static BigInteger[] gainAt(State s, Thing t, int price, int part) {
        BigInteger[] taken = takenAt(s, t, price);
        BigInteger hundred = BigInteger.valueOf(100);
        BigInteger above = taken[0].multiply(BigInteger.valueOf(price))
            .add(taken[1].subtract(taken[0]).multiply(BigInteger.valueOf(value(t, t.owner))))
            .multiply(hundred)
            .subtract(BigInteger.valueOf((long) part * price).multiply(taken[1]));
        return new BigInteger[] {above, taken[1].multiply(hundred)};
    }

    private static int best(State s, Thing t, int part) {
        TreeSet<Integer> tried = new TreeSet<>(List.of(0, 9999));
        for (int i = 0; i < s.people.size(); i++) {
            tried.add(value(t, i));
            tried.add(Math.max(0, value(t, i) - 1));
        }
        int best = -1;
        BigInteger[] most = null;
        for (int price : tried) {
            BigInteger[] gain = gainAt(s, t, price, part);
            if (best < 0 || gain[0].multiply(most[1]).compareTo(most[0].multiply(gain[1])) > 0) {
                best = price;
                most = gain;
            }
        }
        return best;
    }

    private static long lowest(BigInteger[] likely, int part) {
        return likely[part].divide(likely[0].gcd(likely[1])).longValueExact();
    }

    long taken(int thing, int price, int part) {
        if (noThing(thing) || !in(price, 0, 9999) || !in(part, 0, 1)) {
            return beyond();
        }
        return lowest(takenAt(s, s.things.get(thing), price), part);
    }

    long gain(int thing, int price, int part) {
        if (noThing(thing) || !in(price, 0, 9999) || !in(part, 0, 1)) {
            return beyond();
        }
        return lowest(gainAt(s, s.things.get(thing), price, s.rules[0]), part);
    }

    long best(int thing) {
        return noThing(thing) ? beyond() : best(s, s.things.get(thing), s.rules[0]);
    }

    long right(int thing) {
        if (noThing(thing)) {
            return beyond();
        }
        Thing t = s.things.get(thing);
        for (int part = 0; part < 100; part++) {
            if (best(s, t, part) == value(t, t.owner)) {
                return part;
            }
        }
        return fail(2);
    }

    // ---- the town

    private static int held(State s) {
        int all = 0;
        for (Thing t : s.things) {
            all += value(t, t.owner);
        }
        for (int[] pair : s.pairs) {
            if (bonusOwner(s, pair) != -1) {
                all += pair[2];
            }
        }
        return all;
    }

    private static long figure(State s, int what) {
        switch (what) {
            case 0:
                return held(s);
            case 1:
                return s.things.stream().mapToInt(t -> greatest(s, t, -1)).sum();
            case 2:
                return s.people.stream().mapToInt(one -> one.purse).sum();
            case 3:
                return s.pot;
            case 4:
                return s.moves;
            case 5:
                return s.things.stream().mapToInt(t -> t.sound).sum();
            default:
                return s.things.stream().mapToInt(t -> t.price).sum();
        }
    }

    long town(int what) {
        return in(what, 0, 6) ? figure(s, what) : beyond();
    }

    long firm(int person, int what) {
        if (noPerson(person) || !in(what, 0, 2)) {
            return beyond();
        }
        List<Integer> bought = new ArrayList<>();
        int paid = 0;
        int worth = 0;
        for (int i = 0; i < s.things.size(); i++) {
            Thing t = s.things.get(i);
            if (t.owner == person || t.kept || value(t, person) <= t.price) {
                continue;
            }
            if (paid + t.price <= s.people.get(person).purse) {
                paid += t.price;
                worth += value(t, person);
                bought.add(i);
            }
        }
        if (what == 0) {
            return bought.size();
        }
        return what == 1 ? worth - paid : bought.stream().mapToInt(i -> 1 << i).sum();
    }

    private static State aheadBy(State s, int n) {
        State then = s.copy();
        for (int i = 0; i < n; i++) {
            year(then);
        }
        return then;
    }

    long then(int n, int what) {
        return !in(n, 0, 40) || !in(what, 0, 6) ? beyond() : figure(aheadBy(s, n), what);
    }

    long whose(int n, int thing) {
        return !in(n, 0, 40) || noThing(thing) ? beyond() : aheadBy(s, n).things.get(thing).owner;
    }

    long part(int n) {
        if (!in(n, 0, 40)) {
            return beyond();
        }
        int[] held = new int[31];
        int best = 30;
        for (int part = 30; part >= 0; part--) {
            State tried = s.copy();
            tried.rules[0] = part;
            held[part] = held(aheadBy(tried, n));
            if (held[part] >= held[best]) {
                best = part;
            }
        }
        return best;
    }

    // ---- voices, sheets, images, what is told

    long voice(int person, int voice, int x) {
        if (noPerson(person) || !in(voice, 0, 3)) {
            return beyond();
        }
        PlainFolk.Namer one = s.people.get(person);
        one.trace.clear();
        try {
            return voice == 0 ? one.names(x) : voice == 1 ? one.buys(x)
                : voice == 2 ? one.pays(x) : one.minds(x);
        } catch (PlainFolk.Parted e) {
            return fail(6);
        } finally {
            trace = new ArrayList<>(one.trace.subList(0, Math.min(30, one.trace.size())));
        }
    }

    long body(int i) {
        return in(i, 0, trace.size() - 1) ? trace.get(i) : fail(2);
    }

    long sheet(int sheet, int bits, int n) {
        if (!in(sheet, 0, 3) || bits != 0 && bits != 8 && bits != 16 && bits != 32) {
            return beyond();
        }
        if (bits == 0) {
            sheets[sheet] = null;
            return 1;
        }
        if (n < 0) {
            return fail(3);
        }
        if (n > 24) {
            return beyond();
        }
        sheets[sheet] = bits == 8 ? new byte[n] : bits == 16 ? new short[n] : (Object) new int[n];
        return 1;
    }

    private static int length(Object row) {
        return java.lang.reflect.Array.getLength(row);
    }

    private static int number(Object row, int i) {
        return java.lang.reflect.Array.getInt(row, i);
    }

    long put(int sheet, int i, int v) {
        if (!in(sheet, 0, 3)) {
            return beyond();
        }
        Object row = sheets[sheet];
        if (row == null) {
            return fail(2);
        }
        if (!in(i, 0, length(row) - 1)) {
            return beyond();
        }
        if (row instanceof byte[]) {
            ((byte[]) row)[i] = (byte) v;
        } else if (row instanceof short[]) {
            ((short[]) row)[i] = (short) v;
        } else {
            ((int[]) row)[i] = v;
        }
        return 1;
    }

    @SuppressWarnings("SuspiciousSystemArraycopy")
    long move(int sheet, int i, int other, int j, int n) {
        if (!in(sheet, 0, 3) || !in(other, 0, 3)) {
            return beyond();
        }
        try {
            System.arraycopy(sheets[sheet], i, sheets[other], j, n);
            return n;
        } catch (NullPointerException e) {
            return fail(2);
        } catch (ArrayStoreException e) {
            return fail(5);
        } catch (IndexOutOfBoundsException e) {
            return beyond();
        }
    }

    long worths(int sheet, int person) {
        if (!in(sheet, 0, 3) || noPerson(person)) {
            return beyond();
        }
        if (sheets[sheet] == null) {
            return fail(2);
        }
        int i = 0;
        while (i < length(sheets[sheet]) && i < s.things.size()
                && in(number(sheets[sheet], i), 0, 9999)) {
            s.things.get(i).worth[person] = number(sheets[sheet], i);
            i++;
        }
        return i;
    }

    long judge(int sheet) {
        if (!in(sheet, 0, 3)) {
            return beyond();
        }
        if (sheets[sheet] == null) {
            return fail(2);
        }
        int i = 0;
        while (i < length(sheets[sheet]) && i < s.things.size()
                && number(sheets[sheet], i) == names(s, s.things.get(i))) {
            i++;
        }
        return i;
    }

    long image() {
        kept = s.copy();
        return ++images;
    }

    long restore() {
        if (kept == null) {
            return fail(2);
        }
        s = kept.copy();
        return s.years;
    }

    long tell(int v) {
        if (s.waiting.size() == 24) {
            return fail(4);
        }
        s.waiting.add(v);
        return s.waiting.size();
    }

    long check(int person) {
        ArrayDeque<Integer> waiting = new ArrayDeque<>(s.waiting);
        s.waiting.clear();
        if (noPerson(person)) {
            return beyond();
        }
        int place = 0;
        for (int i = 0; i < s.things.size(); i++) {
            if (s.things.get(i).owner == person) {
                Integer told = waiting.poll();
                if (told == null || told != i) {
                    return 1 + place;
                }
                place++;
            }
        }
        return waiting.isEmpty() ? 0 : 1 + place;
    }

    long count(int what) {
        long[] counts = {s.people.size(), s.things.size(), s.pairs.size(), s.years,
            s.tape.length(), s.waiting.size(), trace.size(), s.z};
        return in(what, 0, 7) ? counts[what] : beyond();
    }

    long told(int k) {
        return in(k, 1, 6) ? errors[k] : beyond();
    }
}
