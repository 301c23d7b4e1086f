/** What a test counts and prints: the calls whose answer is not the one that is due. */
final class Due {
    static final long BEYOND = -1000000001L;
    static final long NONE = -1000000002L;
    static final long STATE = -1000000003L;
    static final long FULL = -1000000004L;
    static final long KIND = -1000000005L;
    static final long PARTED = -1000000006L;

    private static int wrong = 0;

    private Due() {
    }

    static void is(String call, long got, long want) {
        if (got != want) {
            wrong++;
            System.out.println(call + " answered " + got + ", due is " + want);
        }
    }

    static void holds(String what, boolean so) {
        if (!so) {
            wrong++;
            System.out.println("not so: " + what);
        }
    }

    /** Ends the test, with 1 if an answer was wrong. */
    static void end() {
        if (wrong != 0) {
            System.out.println(wrong + " answers are not as due");
            System.exit(1);
        }
    }

    /** Puts a text on THE TAPE, in words of up to 8 bytes. */
    static void feed(NamedPrices town, String text) {
        for (int i = 0; i < text.length(); i += 8) {
            int n = Math.min(8, text.length() - i);
            long word = 0;
            for (int k = 0; k < n; k++) {
                word |= (long) (text.charAt(i + k) & 255) << (8 * k);
            }
            town.feed(word, n);
        }
    }
}
