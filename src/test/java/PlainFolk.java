/**
 * The KINDS as Java classes, so that Java's own calls say which BODY a voice reaches. A second
 * telling of the document, by other means than the class under test.
 */
final class PlainFolk {
    static final class Parted extends RuntimeException {
        private static final long serialVersionUID = 1L;
    }

    static class Namer {
        int purse;
        int p;
        int q;
        int n;
        final java.util.ArrayList<Integer> trace = new java.util.ArrayList<>();

        int names(int x) {
            trace.add(10);
            return x + n;
        }

        int buys(int x) {
            trace.add(11);
            return names(x) * 2;
        }

        int pays(int x) {
            trace.add(12);
            return buys(x) - p;
        }

        int minds(int x) {
            trace.add(13);
            if (p == n) {
                throw new Parted();
            }
            return x / (p - n);
        }
    }

    static class True extends Namer {
        @Override
        int names(int x) {
            trace.add(20);
            return super.names(x) + 5;
        }

        @Override
        int minds(int x) {
            trace.add(21);
            return super.minds(x) + buys(1);
        }
    }

    static final class High extends True {
        @Override
        int buys(int x) {
            trace.add(30);
            return 0 - super.buys(x);
        }
    }

    static final class Low extends True {
        @Override
        int names(int x) {
            trace.add(40);
            return super.names(x / 2);
        }

        @Override
        int pays(int x) {
            trace.add(41);
            return super.pays(x) ^ n;
        }
    }

    static final class Spite extends Namer {
        @Override
        int pays(int x) {
            trace.add(50);
            return super.pays(x + 1);
        }
    }

    static final class Told extends Namer {
        @Override
        int names(int x) {
            trace.add(70);
            return 8;
        }

        @Override
        int buys(int x) {
            trace.add(71);
            return super.buys(x) + n;
        }
    }

    static final class Best extends True {
        @Override
        int names(int x) {
            trace.add(60);
            return super.names(x) * 3;
        }

        @Override
        int minds(int x) {
            trace.add(61);
            return super.minds(x) - pays(0);
        }
    }

    private PlainFolk() {
    }

    static Namer ofKind(int kind) {
        switch (kind) {
            case 0:
                return new Namer();
            case 1:
                return new True();
            case 2:
                return new High();
            case 3:
                return new Low();
            case 4:
                return new Spite();
            case 5:
                return new Told();
            default:
                return new Best();
        }
    }

    static int kindOf(Namer one) {
        Class<?>[] kinds = {
            Namer.class, True.class, High.class, Low.class, Spite.class, Told.class, Best.class};
        return java.util.Arrays.asList(kinds).indexOf(one.getClass());
    }

    static Namer as(Namer one, int kind) {
        Namer other = ofKind(kind);
        other.purse = one.purse;
        other.p = one.p;
        other.q = one.q;
        other.n = one.n;
        return other;
    }
}
