/**
 * A town in which everyone writes on each thing what they would sell it for, pays a part of that
 * a year, and must sell to whoever puts down so much.
 */
public final class NamedPrices {
    private static final int LOW = -1000000000;
    private static final int BEYOND = 1;
    private static final int NONE = 2;
    private static final int STATE = 3;
    private static final int FULL = 4;
    private static final int KIND = 5;
    private static final int PARTED = 6;

    private static final int MOST_PEOPLE = 6;
    private static final int MOST_THINGS = 12;
    private static final int MOST_PAIRS = 6;
    private static final int MOST_PURSE = 999999;
    private static final int MOST_PRICE = 9999;
    private static final int MOST_POT = 1999999999;
    private static final int MOST_YEARS = 9999;
    private static final int MOST_AT_ONCE = 40;
    private static final int MOST_BYTES = 60;
    private static final int MOST_NUMBERS = 24;
    private static final int SHEETS = 4;
    private static final int HIGHEST_TRIED_PART = 30;

    private static final int PART = 0;
    private static final int BREAKS = 1;
    private static final int POT = 2;
    private static final int SPARES = 3;
    private static final int MENDS = 4;

    private final Town now;
    // The years ahead are tried on this one, so that no call needs a town of its own.
    private final Town ahead;
    private final Town kept;
    private final Reader reader;
    private final Market market;
    private final Voices voices;
    private final Sheet[] sheets;
    private final Row errors;
    private int images;

    public NamedPrices() {
        market = new Market();
        now = new Town(market);
        ahead = new Town(market);
        kept = new Town(market);
        reader = new Reader();
        voices = new Voices();
        sheets = new Sheet[SHEETS];
        for (int i = 0; i < sheets.length; i++) {
            sheets[i] = new Sheet();
        }
        errors = new Row(PARTED + 1);
        errors.reset(PARTED + 1);
        images = 0;
    }

    // ---- people, things

    public int person(int kind, int purse, int pq) {
        if (!Kind.isOne(kind) || !within(purse, MOST_PURSE) || !isChance(pq)) {
            return fail(BEYOND);
        }
        if (now.people.size() >= MOST_PEOPLE) {
            return fail(FULL);
        }
        return now.people.join(kind, purse, pq);
    }

    public int personIs(int person, int what) {
        if (!isPerson(person) || !within(what, 6)) {
            return fail(BEYOND);
        }
        switch (what) {
            case 0:
                return now.people.kinds.at(person);
            case 1:
                return now.people.purses.at(person);
            case 2:
                return now.people.chances.at(person) * 10 + now.people.outOf.at(person);
            case 3:
                return now.things.ownedBy(person);
            case 4:
                return now.things.keptBy(person);
            case 5:
                return now.lackedBy(person);
            default:
                return now.things.valueOwnedBy(person);
        }
    }

    public int as(int person, int kind) {
        if (!isPerson(person) || !Kind.isOne(kind)) {
            return fail(BEYOND);
        }
        if (!Kind.isUnder(now.people.kinds.at(person), kind)) {
            return fail(KIND);
        }
        return now.people.purses.at(person);
    }

    public int become(int person, int kind) {
        if (!isPerson(person) || !Kind.isOne(kind)) {
            return fail(BEYOND);
        }
        return now.people.kinds.swap(person, kind);
    }

    public int purse(int person, int v) {
        if (!isPerson(person) || !within(v, MOST_PURSE)) {
            return fail(BEYOND);
        }
        return now.people.purses.swap(person, v);
    }

    public int thing(int owner, int price) {
        if (!isPerson(owner) || !within(price, MOST_PRICE)) {
            return fail(BEYOND);
        }
        if (now.things.size() >= MOST_THINGS) {
            return fail(FULL);
        }
        return now.things.come(owner, price);
    }

    public int thingIs(int thing, int what) {
        if (!isThing(thing) || !within(what, 5)) {
            return fail(BEYOND);
        }
        switch (what) {
            case 0:
                return now.things.owners.at(thing);
            case 1:
                return now.things.prices.at(thing);
            case 2:
                return now.things.sounds.at(thing);
            case 3:
                return now.things.kept.at(thing);
            case 4:
                return now.things.valueOf(now.things.owners.at(thing), thing);
            default:
                return now.fondestOf(thing);
        }
    }

    public int worth(int person, int thing, int v) {
        if (!isPerson(person) || !isThing(thing) || !within(v, MOST_PRICE)) {
            return fail(BEYOND);
        }
        return now.things.setWorth(person, thing, v);
    }

    public int price(int thing, int v) {
        if (!isThing(thing) || !within(v, MOST_PRICE)) {
            return fail(BEYOND);
        }
        return now.things.prices.swap(thing, v);
    }

    public int keep(int thing, int on) {
        if (!isThing(thing) || !within(on, 1)) {
            return fail(BEYOND);
        }
        boolean becomesKept = on == 1 && now.things.kept.at(thing) == 0;
        if (becomesKept && now.things.keptBy(now.things.owners.at(thing)) >= now.rules.at(SPARES)) {
            return fail(STATE);
        }
        return now.things.kept.swap(thing, on);
    }

    public int pair(int one, int other, int bonus) {
        if (!isThing(one) || !isThing(other) || one == other || !within(bonus, MOST_PRICE)) {
            return fail(BEYOND);
        }
        if (now.bonuses.size() >= MOST_PAIRS) {
            return fail(FULL);
        }
        return now.addPair(one, other, bonus);
    }

    public int pairIs(int pair, int what) {
        if (!within(pair, now.bonuses.size() - 1) || !within(what, 3)) {
            return fail(BEYOND);
        }
        switch (what) {
            case 0:
                return now.ones.at(pair);
            case 1:
                return now.others.at(pair);
            case 2:
                return now.bonuses.at(pair);
            default:
                return now.bonusOwner(pair);
        }
    }

    public int rule(int rule, int v) {
        if (!within(rule, MENDS) || !within(v, highestOfRule(rule))) {
            return fail(BEYOND);
        }
        return now.rules.swap(rule, v);
    }

    // ---- texts

    public int feed(long word, int n) {
        if (n < 1 || n > 8) {
            return fail(BEYOND);
        }
        if (now.tape.size() > MOST_BYTES - n) {
            return fail(FULL);
        }
        for (int i = 0; i < n; i++) {
            now.tape.add((int) (word >>> (8 * i)) & 255);
        }
        return now.tape.size();
    }

    public int text(int use) {
        if (!within(use, 1)) {
            return fail(BEYOND);
        }
        int fault = reader.read(now.tape, use == 0 ? "vmpry" : "vscur");
        now.tape.reset(0);
        if (fault >= 0) {
            return -10 - fault;
        }
        textOf(use).hold(reader.code);
        return 1;
    }

    public int untell(int use) {
        if (!within(use, 1)) {
            return fail(BEYOND);
        }
        boolean was = textOf(use).stands();
        textOf(use).forget();
        return was ? 1 : 0;
    }

    // ---- years

    public int named(int thing) {
        if (!isThing(thing)) {
            return fail(BEYOND);
        }
        return now.nameFor(thing);
    }

    public int mended(int thing) {
        if (!isThing(thing)) {
            return fail(BEYOND);
        }
        return now.wouldMend(thing) ? 1 : 0;
    }

    public int years(int n) {
        if (n < 1 || n > MOST_AT_ONCE) {
            return fail(BEYOND);
        }
        if (now.years > MOST_YEARS - n) {
            return fail(STATE);
        }
        Calendar.goBy(now, n);
        return now.moves;
    }

    public int seed(int v) {
        int was = now.z;
        now.z = v;
        return was;
    }

    // ---- prices

    public long taken(int thing, int price, int part) {
        if (!isThing(thing) || !within(price, MOST_PRICE) || !within(part, 1)) {
            return fail(BEYOND);
        }
        market.look(now, thing);
        long above = market.whole - market.leftAt(price);
        return lowestTerm(above, market.whole, part);
    }

    public long gain(int thing, int price, int part) {
        if (!isThing(thing) || !within(price, MOST_PRICE) || !within(part, 1)) {
            return fail(BEYOND);
        }
        market.look(now, thing);
        long above = market.gainAt(price, now.rules.at(PART));
        return lowestTerm(above, market.whole * 100, part);
    }

    public int best(int thing) {
        if (!isThing(thing)) {
            return fail(BEYOND);
        }
        market.look(now, thing);
        return market.bestPrice(now.rules.at(PART));
    }

    public int right(int thing) {
        if (!isThing(thing)) {
            return fail(BEYOND);
        }
        market.look(now, thing);
        for (int tried = 0; tried <= 99; tried++) {
            if (market.bestPrice(tried) == market.own) {
                return tried;
            }
        }
        return fail(NONE);
    }

    // ---- the town

    public int town(int what) {
        if (!within(what, 6)) {
            return fail(BEYOND);
        }
        return now.figure(what);
    }

    public int firm(int person, int what) {
        if (!isPerson(person) || !within(what, 2)) {
            return fail(BEYOND);
        }
        return now.goRound(person, what);
    }

    public int then(int n, int what) {
        if (!within(n, MOST_AT_ONCE) || !within(what, 6)) {
            return fail(BEYOND);
        }
        ahead.copy(now);
        Calendar.goBy(ahead, n);
        return ahead.figure(what);
    }

    public int whose(int n, int thing) {
        if (!within(n, MOST_AT_ONCE) || !isThing(thing)) {
            return fail(BEYOND);
        }
        ahead.copy(now);
        Calendar.goBy(ahead, n);
        return ahead.things.owners.at(thing);
    }

    public int part(int n) {
        if (!within(n, MOST_AT_ONCE)) {
            return fail(BEYOND);
        }
        int best = 0;
        int most = -1;
        for (int tried = 0; tried <= HIGHEST_TRIED_PART; tried++) {
            ahead.copy(now);
            ahead.rules.set(PART, tried);
            Calendar.goBy(ahead, n);
            int held = ahead.held();
            if (held > most) {
                most = held;
                best = tried;
            }
        }
        return best;
    }

    // ---- voices, sheets, images, what is told

    public int voice(int person, int voice, int x) {
        if (!isPerson(person) || !within(voice, Voices.MINDS)) {
            return fail(BEYOND);
        }
        int answer = voices.speak(now.people, person, voice, x);
        return voices.parted ? fail(PARTED) : answer;
    }

    public int body(int i) {
        if (!within(i, voices.trace.size() - 1)) {
            return fail(NONE);
        }
        return voices.trace.at(i);
    }

    public int sheet(int sheet, int bits, int n) {
        Sheet found = sheetAt(sheet);
        if (found == null || !Sheet.isWidth(bits)) {
            return fail(BEYOND);
        }
        if (bits != 0 && n < 0) {
            return fail(STATE);
        }
        if (bits != 0 && n > MOST_NUMBERS) {
            return fail(BEYOND);
        }
        found.make(bits, n);
        return 1;
    }

    public int put(int sheet, int i, int v) {
        Sheet found = sheetAt(sheet);
        if (found == null) {
            return fail(BEYOND);
        }
        if (found.isMissing()) {
            return fail(NONE);
        }
        if (!found.holds(i, 1)) {
            return fail(BEYOND);
        }
        found.write(i, v);
        return 1;
    }

    public int move(int sheet, int i, int other, int j, int n) {
        Sheet from = sheetAt(sheet);
        Sheet to = sheetAt(other);
        if (from == null || to == null) {
            return fail(BEYOND);
        }
        if (from.isMissing() || to.isMissing()) {
            return fail(NONE);
        }
        if (from.bits != to.bits) {
            return fail(KIND);
        }
        if (!from.holds(i, n) || !to.holds(j, n)) {
            return fail(BEYOND);
        }
        to.numbers.take(from.numbers, i, j, n);
        return n;
    }

    public int worths(int sheet, int person) {
        Sheet found = sheetAt(sheet);
        if (found == null || !isPerson(person)) {
            return fail(BEYOND);
        }
        if (found.isMissing()) {
            return fail(NONE);
        }
        int most = Math.min(found.numbers.size(), now.things.size());
        for (int i = 0; i < most; i++) {
            int v = found.numbers.at(i);
            if (!within(v, MOST_PRICE)) {
                return i;
            }
            now.things.setWorth(person, i, v);
        }
        return most;
    }

    public int judge(int sheet) {
        Sheet found = sheetAt(sheet);
        if (found == null) {
            return fail(BEYOND);
        }
        if (found.isMissing()) {
            return fail(NONE);
        }
        int things = now.things.size();
        for (int i = 0; i < things; i++) {
            if (!found.holds(i, 1) || found.numbers.at(i) != now.nameFor(i)) {
                return i;
            }
        }
        return things;
    }

    public int image() {
        kept.copy(now);
        images++;
        return images;
    }

    public int restore() {
        if (images == 0) {
            return fail(NONE);
        }
        now.copy(kept);
        return now.years;
    }

    public int tell(int v) {
        if (now.waiting.size() >= MOST_NUMBERS) {
            return fail(FULL);
        }
        now.waiting.add(v);
        return now.waiting.size();
    }

    public int check(int person) {
        int answer = isPerson(person) ? now.firstWrongOf(person) : fail(BEYOND);
        now.waiting.reset(0);
        return answer;
    }

    public int count(int what) {
        switch (what) {
            case 0:
                return now.people.size();
            case 1:
                return now.things.size();
            case 2:
                return now.bonuses.size();
            case 3:
                return now.years;
            case 4:
                return now.tape.size();
            case 5:
                return now.waiting.size();
            case 6:
                return voices.trace.size();
            case 7:
                return now.z;
            default:
                return fail(BEYOND);
        }
    }

    public int told(int k) {
        if (k < BEYOND || k > PARTED) {
            return fail(BEYOND);
        }
        return errors.at(k);
    }

    // ---- what the calls share

    private int fail(int error) {
        errors.set(error, errors.at(error) + 1);
        return LOW - error;
    }

    private boolean isPerson(int person) {
        return within(person, now.people.size() - 1);
    }

    private boolean isThing(int thing) {
        return within(thing, now.things.size() - 1);
    }

    private Text textOf(int use) {
        return use == 0 ? now.naming : now.mending;
    }

    private Sheet sheetAt(int i) {
        return i >= 0 && i < sheets.length ? sheets[i] : null;
    }

    private static boolean within(int v, int most) {
        return v >= 0 && v <= most;
    }

    private static boolean isChance(int pq) {
        if (pq < 0) {
            return false;
        }
        int q = pq % 10;
        return q >= 1 && pq / 10 <= q;
    }

    private static int highestOfRule(int rule) {
        switch (rule) {
            case PART:
            case BREAKS:
                return 99;
            case POT:
                return 2;
            case SPARES:
                return 9;
            default:
                return 999;
        }
    }

    private static long lowestTerm(long above, long below, int which) {
        long a = Math.abs(above);
        long b = below;
        // A hundred steps are more than two longs can need.
        for (int i = 0; i < 100 && b != 0; i++) {
            long rest = a % b;
            a = b;
            b = rest;
        }
        long common = a == 0 ? 1 : a;
        return which == 0 ? above / common : below / common;
    }

    /** Ints in a row, looked at only where there are some: elsewhere they are 0. */
    private static final class Row {
        private final int[] numbers;
        private int size;

        Row(int room) {
            numbers = new int[Math.max(room, 0)];
            size = 0;
        }

        int size() {
            return size;
        }

        int at(int i) {
            return i >= 0 && i < size && i < numbers.length ? numbers[i] : 0;
        }

        void set(int i, int v) {
            if (i >= 0 && i < size && i < numbers.length) {
                numbers[i] = v;
            }
        }

        int swap(int i, int v) {
            int was = at(i);
            set(i, v);
            return was;
        }

        /** What has no room any more is let go. */
        void add(int v) {
            if (size >= 0 && size < numbers.length) {
                numbers[size] = v;
                size++;
            }
        }

        int last() {
            return at(size - 1);
        }

        /** The last one, which goes; 0 if there is none. */
        int pop() {
            int last = size - 1;
            if (last < 0 || last >= numbers.length) {
                return 0;
            }
            size = last;
            return numbers[last];
        }

        int sum() {
            int all = 0;
            for (int i = 0; i < size; i++) {
                all += at(i);
            }
            return all;
        }

        /** Becomes n numbers, all 0. */
        void reset(int n) {
            size = Math.max(0, Math.min(n, numbers.length));
            for (int i = 0; i < size; i++) {
                set(i, 0);
            }
        }

        void copy(Row other) {
            size = Math.min(other.size, numbers.length);
            take(other, 0, 0, size);
        }

        /** The other's n numbers from i on come here from j on, as they all were. */
        void take(Row other, int i, int j, int n) {
            boolean fits = n > 0 && i >= 0 && j >= 0;
            if (fits && i <= other.numbers.length - n && j <= numbers.length - n) {
                System.arraycopy(other.numbers, i, numbers, j, n);
            }
        }
    }

    /** The KINDS and which stands under which. */
    private static final class Kind {
        static final int NAMER = 0;
        static final int TRUE = 1;
        static final int HIGH = 2;
        static final int LOWER = 3;
        static final int SPITE = 4;
        static final int TOLD = 5;
        static final int BEST = 6;
        // No KIND stands more than this many above or below another, itself counted.
        static final int LEVELS = 3;
        private static final int[] ABOVE = {-1, NAMER, TRUE, TRUE, NAMER, NAMER, TRUE};

        static boolean isOne(int kind) {
            return kind >= 0 && kind < ABOVE.length;
        }

        static int above(int kind) {
            return kind >= 0 && kind < ABOVE.length ? ABOVE[kind] : -1;
        }

        static boolean isUnder(int kind, int other) {
            int at = kind;
            for (int i = 0; i < LEVELS; i++) {
                if (at == other) {
                    return true;
                }
                at = above(at);
            }
            return false;
        }
    }

    /** Those who live in the town. */
    private static final class People {
        final Row kinds;
        final Row purses;
        final Row chances;
        final Row outOf;

        People() {
            kinds = new Row(MOST_PEOPLE);
            purses = new Row(MOST_PEOPLE);
            chances = new Row(MOST_PEOPLE);
            outOf = new Row(MOST_PEOPLE);
        }

        int size() {
            return kinds.size();
        }

        int join(int kind, int purse, int pq) {
            kinds.add(kind);
            purses.add(purse);
            chances.add(pq / 10);
            outOf.add(pq % 10);
            return kinds.size() - 1;
        }

        void receive(int person, int sum) {
            purses.set(person, Math.min(purses.at(person) + sum, MOST_PURSE));
        }

        void spend(int person, int sum) {
            purses.set(person, purses.at(person) - sum);
        }

        int poorest() {
            int found = 0;
            for (int i = 1; i < purses.size(); i++) {
                if (purses.at(i) < purses.at(found)) {
                    found = i;
                }
            }
            return found;
        }

        void copy(People other) {
            kinds.copy(other.kinds);
            purses.copy(other.purses);
            chances.copy(other.chances);
            outOf.copy(other.outOf);
        }
    }

    /** What is owned, and what it is worth to whom. */
    private static final class Things {
        static final int SOUNDEST = 100;
        final Row owners;
        final Row prices;
        final Row sounds;
        final Row kept;
        private final Row worthRows;

        Things() {
            owners = new Row(MOST_THINGS);
            prices = new Row(MOST_THINGS);
            sounds = new Row(MOST_THINGS);
            kept = new Row(MOST_THINGS);
            worthRows = new Row(MOST_PEOPLE * MOST_THINGS);
            worthRows.reset(MOST_PEOPLE * MOST_THINGS);
        }

        int size() {
            return owners.size();
        }

        int come(int owner, int price) {
            owners.add(owner);
            prices.add(price);
            sounds.add(SOUNDEST);
            kept.add(0);
            return owners.size() - 1;
        }

        int setWorth(int person, int thing, int v) {
            return worthRows.swap(person * MOST_THINGS + thing, v);
        }

        int valueOf(int person, int thing) {
            return worthRows.at(person * MOST_THINGS + thing) * sounds.at(thing) / 100;
        }

        int ownedBy(int person) {
            int found = 0;
            for (int i = 0; i < owners.size(); i++) {
                found += owners.at(i) == person ? 1 : 0;
            }
            return found;
        }

        int keptBy(int person) {
            int found = 0;
            for (int i = 0; i < owners.size(); i++) {
                found += owners.at(i) == person ? kept.at(i) : 0;
            }
            return found;
        }

        int valueOwnedBy(int person) {
            int all = 0;
            for (int i = 0; i < owners.size(); i++) {
                all += owners.at(i) == person ? valueOf(person, i) : 0;
            }
            return all;
        }

        void copy(Things other) {
            owners.copy(other.owners);
            prices.copy(other.prices);
            sounds.copy(other.sounds);
            kept.copy(other.kept);
            worthRows.copy(other.worthRows);
        }
    }

    /** A TEXT, kept as its signs in the order in which they are worked out. */
    private static final class Text {
        // Below NAME stand numbers as they are, then names, then signs.
        static final int NAME = 10000;
        static final int SIGN = 20000;
        private final Row code;
        private final Row names;
        private final Row stack;

        Text() {
            code = new Row(MOST_BYTES);
            names = new Row(5);
            names.reset(5);
            stack = new Row(MOST_BYTES);
        }

        boolean stands() {
            return code.size() > 0;
        }

        void forget() {
            code.reset(0);
        }

        void hold(Row read) {
            code.copy(read);
        }

        void setName(int i, int v) {
            names.set(i, v);
        }

        int work() {
            stack.reset(0);
            for (int i = 0; i < code.size(); i++) {
                int next = code.at(i);
                if (next < NAME) {
                    stack.add(next);
                } else if (next < SIGN) {
                    stack.add(names.at(next - NAME));
                } else {
                    workSign(next - SIGN);
                }
            }
            return stack.last();
        }

        private void workSign(int sign) {
            int right = stack.pop();
            if (sign == '!') {
                stack.add(right == 0 ? 1 : 0);
            } else {
                stack.add(joined(sign, stack.pop(), right));
            }
        }

        private static int joined(int sign, int left, int right) {
            switch (sign) {
                case '+':
                    return left + right;
                case '-':
                    return left - right;
                case '*':
                    return left * right;
                case '/':
                    return right == 0 ? 0 : left / right;
                case '%':
                    return right == 0 ? 0 : left % right;
                case '<':
                    return left < right ? 1 : 0;
                case '=':
                    return left == right ? 1 : 0;
                case '>':
                    return left > right ? 1 : 0;
                case '&':
                    return left != 0 && right != 0 ? 1 : 0;
                default:
                    return left != 0 || right != 0 ? 1 : 0;
            }
        }
    }

    /**
     * Reads THE TAPE byte by byte. Each byte that is taken leaves a state from which some TEXT
     * goes on, so the first that is refused is the FAULT.
     */
    private static final class Reader {
        private static final int MOST_DIGITS = 4;
        private static final int MOST_OPEN = 5;
        private static final int COMPARING = 3;
        private static final int DENYING = 6;
        final Row code;
        private final Row open;
        private int opened;
        private int digits;
        private boolean operandDue;

        Reader() {
            code = new Row(MOST_BYTES);
            open = new Row(MOST_BYTES);
        }

        /** The FAULT, or -1 if there is none: then the code is the TEXT's. */
        int read(Row tape, String names) {
            code.reset(0);
            open.reset(0);
            opened = 0;
            digits = 0;
            operandDue = true;
            for (int i = 0; i < tape.size(); i++) {
                if (!takes(tape.at(i), names)) {
                    return i;
                }
            }
            close(1);
            return operandDue || open.size() > 0 ? tape.size() : -1;
        }

        private boolean takes(int sign, String names) {
            if (sign >= '0' && sign <= '9') {
                return takesDigit(sign - '0');
            }
            digits = 0;
            return operandDue ? takesFirst(sign, names) : takesNext(sign);
        }

        private boolean takesDigit(int digit) {
            if (digits > 0 && digits < MOST_DIGITS) {
                code.set(code.size() - 1, code.last() * 10 + digit);
                digits++;
                return true;
            }
            if (!operandDue) {
                return false;
            }
            code.add(digit);
            digits = 1;
            operandDue = false;
            return true;
        }

        private boolean takesFirst(int sign, String names) {
            if (sign == '!' || sign == '(') {
                open.add(sign);
                opened++;
                return opened <= MOST_OPEN;
            }
            int name = names.indexOf((char) sign);
            code.add(Text.NAME + name);
            operandDue = false;
            return name >= 0;
        }

        private boolean takesNext(int sign) {
            if (sign == ')') {
                return closesBracket();
            }
            int rank = rankOf(sign);
            if (rank == 0 || rank == DENYING) {
                return false;
            }
            // A second comparison has no place beside a first: it must not close that one.
            close(rank == COMPARING ? rank + 1 : rank);
            if (rank == COMPARING && rankOf(open.last()) == COMPARING) {
                return false;
            }
            open.add(sign);
            operandDue = true;
            return true;
        }

        private boolean closesBracket() {
            close(1);
            if (open.last() != '(') {
                return false;
            }
            open.pop();
            opened--;
            return true;
        }

        /** Signs that bind no less than this rank have both their sides now. */
        private void close(int rank) {
            for (int i = open.size(); i > 0 && rankOf(open.last()) >= rank; i--) {
                int sign = open.pop();
                opened -= sign == '!' ? 1 : 0;
                code.add(Text.SIGN + sign);
            }
        }

        private static int rankOf(int sign) {
            switch (sign) {
                case '|':
                    return 1;
                case '&':
                    return 2;
                case '<':
                case '=':
                case '>':
                    return COMPARING;
                case '+':
                case '-':
                    return 4;
                case '*':
                case '/':
                case '%':
                    return 5;
                case '!':
                    return DENYING;
                default:
                    return 0;
            }
        }
    }

    /** One THING as those see it who may come: what a price on it brings. */
    private static final class Market {
        private final Row values;
        private final Row misses;
        private final Row outOf;
        // The likelihoods are counted in parts of this whole, so that they stay exact.
        long whole;
        int own;

        Market() {
            values = new Row(MOST_PEOPLE);
            misses = new Row(MOST_PEOPLE);
            outOf = new Row(MOST_PEOPLE);
        }

        void look(Town town, int thing) {
            int owner = town.things.owners.at(thing);
            own = town.things.valueOf(owner, thing);
            whole = 1;
            values.reset(0);
            misses.reset(0);
            outOf.reset(0);
            for (int i = 0; i < town.people.size(); i++) {
                if (i != owner) {
                    int q = town.people.outOf.at(i);
                    values.add(town.things.valueOf(i, thing));
                    misses.add(q - town.people.chances.at(i));
                    outOf.add(q);
                    whole *= q;
                }
            }
        }

        /** In how many parts of the whole nobody comes who would pay this. */
        long leftAt(int price) {
            long left = 1;
            for (int i = 0; i < values.size(); i++) {
                left *= values.at(i) > price ? misses.at(i) : outOf.at(i);
            }
            return left;
        }

        /** GAIN in hundredths of parts of the whole. */
        long gainAt(int price, int part) {
            long left = leftAt(price);
            return 100 * ((whole - left) * price + left * own) - whole * part * price;
        }

        int bestPrice(int part) {
            int best = 0;
            long most = gainAt(0, part);
            for (int i = 0; i <= values.size() * 2; i++) {
                int tried = candidate(i);
                long gained = tried < 0 ? most - 1 : gainAt(tried, part);
                if (gained > most || gained == most && tried < best) {
                    best = tried;
                    most = gained;
                }
            }
            return best;
        }

        /** What may be best beside 0: below 0 it can't. */
        private int candidate(int i) {
            return i == values.size() * 2 ? MOST_PRICE : values.at(i / 2) - i % 2;
        }
    }

    /** All that an IMAGE keeps. */
    private static final class Town {
        final People people;
        final Things things;
        final Row ones;
        final Row others;
        final Row bonuses;
        final Row rules;
        final Text naming;
        final Text mending;
        final Row tape;
        final Row waiting;
        private final Market market;
        int years;
        int moves;
        int pot;
        int z;

        Town(Market shared) {
            people = new People();
            things = new Things();
            ones = new Row(MOST_PAIRS);
            others = new Row(MOST_PAIRS);
            bonuses = new Row(MOST_PAIRS);
            rules = new Row(MENDS + 1);
            rules.reset(MENDS + 1);
            rules.set(PART, 5);
            rules.set(BREAKS, 10);
            rules.set(SPARES, 1);
            rules.set(MENDS, 20);
            naming = new Text();
            mending = new Text();
            tape = new Row(MOST_BYTES);
            waiting = new Row(MOST_NUMBERS);
            market = shared;
            z = 1;
        }

        void copy(Town other) {
            people.copy(other.people);
            things.copy(other.things);
            ones.copy(other.ones);
            others.copy(other.others);
            bonuses.copy(other.bonuses);
            rules.copy(other.rules);
            naming.hold(other.naming.code);
            mending.hold(other.mending.code);
            tape.copy(other.tape);
            waiting.copy(other.waiting);
            years = other.years;
            moves = other.moves;
            pot = other.pot;
            z = other.z;
        }

        int addPair(int one, int other, int bonus) {
            ones.add(one);
            others.add(other);
            bonuses.add(bonus);
            return bonuses.size() - 1;
        }

        int bonusOwner(int pair) {
            int one = ones.at(pair);
            int other = others.at(pair);
            boolean sound = things.sounds.at(one) >= 50 && things.sounds.at(other) >= 50;
            int owner = things.owners.at(one);
            return sound && owner == things.owners.at(other) ? owner : -1;
        }

        int lackedBy(int person) {
            int bits = 0;
            for (int i = 0; i < bonuses.size(); i++) {
                boolean hasOne = things.owners.at(ones.at(i)) == person;
                boolean hasOther = things.owners.at(others.at(i)) == person;
                bits |= hasOne != hasOther ? 1 << i : 0;
            }
            return bits;
        }

        int fondestOf(int thing) {
            int found = 0;
            for (int i = 1; i < people.size(); i++) {
                if (things.valueOf(i, thing) > things.valueOf(found, thing)) {
                    found = i;
                }
            }
            return found;
        }

        int mostElse(int thing) {
            int owner = things.owners.at(thing);
            int most = 0;
            for (int i = 0; i < people.size(); i++) {
                if (i != owner) {
                    most = Math.max(most, things.valueOf(i, thing));
                }
            }
            return most;
        }

        int nameFor(int thing) {
            int owner = things.owners.at(thing);
            int own = things.valueOf(owner, thing);
            switch (people.kinds.at(owner)) {
                case Kind.NAMER:
                    return things.prices.at(thing);
                case Kind.TRUE:
                    return own;
                case Kind.HIGH:
                    return Math.min(own * 2, MOST_PRICE);
                case Kind.LOWER:
                    return own / 2;
                case Kind.SPITE:
                    return Math.max(mostElse(thing) - 1, 0);
                case Kind.TOLD:
                    return naming.stands() ? nameByText(thing, own) : own;
                default:
                    market.look(this, thing);
                    return market.bestPrice(rules.at(PART));
            }
        }

        private int nameByText(int thing, int own) {
            naming.setName(0, own);
            naming.setName(1, mostElse(thing));
            naming.setName(2, things.prices.at(thing));
            naming.setName(3, rules.at(PART));
            naming.setName(4, years);
            return Math.max(0, Math.min(naming.work(), MOST_PRICE));
        }

        boolean wouldMend(int thing) {
            int purse = people.purses.at(things.owners.at(thing));
            if (things.sounds.at(thing) >= Things.SOUNDEST || purse < rules.at(MENDS)) {
                return false;
            }
            int own = things.valueOf(things.owners.at(thing), thing);
            return mending.stands() ? mendByText(thing, own) : own / 10 >= rules.at(MENDS);
        }

        private boolean mendByText(int thing, int own) {
            mending.setName(0, own);
            mending.setName(1, things.sounds.at(thing));
            mending.setName(2, rules.at(MENDS));
            mending.setName(3, people.purses.at(things.owners.at(thing)));
            mending.setName(4, rules.at(PART));
            return mending.work() != 0;
        }

        int figure(int what) {
            switch (what) {
                case 0:
                    return held();
                case 1:
                    return most();
                case 2:
                    return people.purses.sum();
                case 3:
                    return pot;
                case 4:
                    return moves;
                case 5:
                    return things.sounds.sum();
                default:
                    return things.prices.sum();
            }
        }

        int held() {
            int all = 0;
            for (int i = 0; i < things.size(); i++) {
                all += things.valueOf(things.owners.at(i), i);
            }
            for (int i = 0; i < bonuses.size(); i++) {
                all += bonusOwner(i) >= 0 ? bonuses.at(i) : 0;
            }
            return all;
        }

        int most() {
            int all = 0;
            for (int i = 0; i < things.size(); i++) {
                all += things.valueOf(fondestOf(i), i);
            }
            return all;
        }

        int goRound(int person, int what) {
            int left = people.purses.at(person);
            int bought = 0;
            int above = 0;
            int bits = 0;
            for (int i = 0; i < things.size(); i++) {
                int price = things.prices.at(i);
                int over = things.valueOf(person, i) - price;
                boolean free = things.owners.at(i) != person && things.kept.at(i) == 0;
                if (free && over > 0 && left >= price) {
                    left -= price;
                    bought++;
                    above += over;
                    bits |= 1 << i;
                }
            }
            return what == 0 ? bought : what == 1 ? above : bits;
        }

        /** 0, or 1 and the place of the first waiting number that is not as it should be. */
        int firstWrongOf(int person) {
            int place = 0;
            for (int i = 0; i < things.size(); i++) {
                if (things.owners.at(i) == person) {
                    if (place >= waiting.size() || waiting.at(place) != i) {
                        return place + 1;
                    }
                    place++;
                }
            }
            return place < waiting.size() ? place + 1 : 0;
        }

        boolean nextComes(int person) {
            z = z * 1103515245 + 12345;
            int q = people.outOf.at(person);
            return q > 0 && (z >>> 8) % q < people.chances.at(person);
        }
    }

    /** How a YEAR goes by, step by step. */
    private static final class Calendar {
        static void goBy(Town town, int n) {
            for (int i = 0; i < n; i++) {
                nameAll(town);
                payAll(town);
                sellAll(town);
                mendAll(town);
                sharePot(town);
                town.years++;
            }
        }

        private static void nameAll(Town town) {
            for (int i = 0; i < town.things.size(); i++) {
                town.things.prices.set(i, town.nameFor(i));
            }
        }

        private static void payAll(Town town) {
            for (int i = 0; i < town.things.size(); i++) {
                int owner = town.things.owners.at(i);
                int due = town.rules.at(PART) * town.things.prices.at(i) / 100;
                int paid = Math.min(due, town.people.purses.at(owner));
                town.people.spend(owner, paid);
                town.pot = Math.min(town.pot + paid, MOST_POT);
            }
        }

        private static void sellAll(Town town) {
            for (int i = 0; i < town.things.size(); i++) {
                if (town.things.kept.at(i) == 0) {
                    offer(town, i);
                }
            }
        }

        private static void offer(Town town, int thing) {
            int owner = town.things.owners.at(thing);
            int price = town.things.prices.at(thing);
            for (int i = 0; i < town.people.size(); i++) {
                // The draw is had even by those who then don't buy.
                boolean buys = i != owner && town.nextComes(i)
                        && town.things.valueOf(i, thing) > price
                        && town.people.purses.at(i) >= price;
                if (buys) {
                    sell(town, thing, i);
                    return;
                }
            }
        }

        private static void sell(Town town, int thing, int buyer) {
            int price = town.things.prices.at(thing);
            town.people.receive(town.things.owners.at(thing), price);
            town.people.spend(buyer, price);
            town.things.owners.set(thing, buyer);
            town.moves++;
            int left = town.things.sounds.at(thing) - town.rules.at(BREAKS);
            town.things.sounds.set(thing, Math.max(left, 0));
        }

        private static void mendAll(Town town) {
            for (int i = 0; i < town.things.size(); i++) {
                if (town.wouldMend(i)) {
                    town.people.spend(town.things.owners.at(i), town.rules.at(MENDS));
                    int better = town.things.sounds.at(i) + 10;
                    town.things.sounds.set(i, Math.min(better, Things.SOUNDEST));
                }
            }
        }

        private static void sharePot(Town town) {
            int people = town.people.size();
            if (people > 0 && town.rules.at(POT) == 1) {
                int share = town.pot / people;
                for (int i = 0; i < people; i++) {
                    town.people.receive(i, share);
                }
                town.pot -= share * people;
            }
            if (people > 0 && town.rules.at(POT) == 2) {
                town.people.receive(town.people.poorest(), town.pot);
                town.pot = 0;
            }
        }
    }

    /** The VOICES of one of PEOPLE, BODY by BODY. */
    private static final class Voices {
        static final int NAMES = 0;
        static final int BUYS = 1;
        static final int PAYS = 2;
        static final int MINDS = 3;
        private static final int MOST_TRACE = 30;
        private static final int MOST_DEPTH = 40;
        // By KIND and voice; 0 where the KIND has no BODY of its own.
        private static final int[] BODIES = {
            10, 11, 12, 13,
            20, 0, 0, 21,
            0, 30, 0, 0,
            40, 0, 41, 0,
            0, 0, 50, 0,
            70, 71, 0, 0,
            60, 0, 0, 61};
        final Row trace;
        boolean parted;
        private int kind;
        private int n;
        private int p;

        Voices() {
            trace = new Row(MOST_TRACE);
        }

        int speak(People people, int person, int voice, int x) {
            trace.reset(0);
            parted = false;
            kind = people.kinds.at(person);
            n = person;
            p = people.chances.at(person);
            return say(kind, voice, x, 0);
        }

        /** The BODY of a KIND, or of the next above that has one. */
        private int say(int from, int voice, int x, int depth) {
            // A voice ends where it is PARTED: no BODY begins after that.
            if (parted || depth > MOST_DEPTH) {
                return 0;
            }
            int at = from;
            for (int i = 0; i < Kind.LEVELS && bodyOf(at, voice) == 0; i++) {
                at = Kind.above(at);
            }
            int number = bodyOf(at, voice);
            trace.add(number);
            return work(number, Kind.above(at), x, depth + 1);
        }

        private int work(int number, int above, int x, int depth) {
            switch (number) {
                case 10:
                    return x + n;
                case 11:
                    return say(kind, NAMES, x, depth) * 2;
                case 12:
                    return say(kind, BUYS, x, depth) - p;
                case 13:
                    return minded(x);
                case 20:
                    return say(above, NAMES, x, depth) + 5;
                case 21:
                    return say(above, MINDS, x, depth) + say(kind, BUYS, 1, depth);
                case 30:
                    return 0 - say(above, BUYS, x, depth);
                case 40:
                    return say(above, NAMES, x / 2, depth);
                case 41:
                    return say(above, PAYS, x, depth) ^ n;
                case 50:
                    return say(above, PAYS, x + 1, depth);
                case 60:
                    return say(above, NAMES, x, depth) * 3;
                case 61:
                    return say(above, MINDS, x, depth) - say(kind, PAYS, 0, depth);
                case 70:
                    return 8;
                case 71:
                    return say(above, BUYS, x, depth) + n;
                default:
                    return 0;
            }
        }

        private int minded(int x) {
            int by = p - n;
            if (by == 0) {
                parted = true;
                return 0;
            }
            return x / by;
        }

        private static int bodyOf(int kind, int voice) {
            int i = kind * 4 + voice;
            return kind >= 0 && i >= 0 && i < BODIES.length ? BODIES[i] : 0;
        }
    }

    /** A row of numbers of so many bits; of 0 bits it is missing. */
    private static final class Sheet {
        final Row numbers;
        int bits;

        Sheet() {
            numbers = new Row(MOST_NUMBERS);
        }

        static boolean isWidth(int bits) {
            return bits == 0 || bits == 8 || bits == 16 || bits == 32;
        }

        boolean isMissing() {
            return bits == 0;
        }

        void make(int width, int n) {
            bits = width;
            numbers.reset(width == 0 ? 0 : n);
        }

        boolean holds(int i, int n) {
            return i >= 0 && n >= 0 && i <= numbers.size() - n;
        }

        void write(int i, int v) {
            numbers.set(i, bits == 8 ? (byte) v : bits == 16 ? (short) v : v);
        }
    }
}
