import java.util.function.Supplier;
import java.util.function.ToLongFunction;

/**
 * One that answers an ERROR changes nothing but what told() tells: of two objects made by the same
 * calls one is asked for what it refuses, and then all that can be seen of both is compared.
 */
final class Twins {
    private static final long LOW = -1000000000L;

    private Twins() {
    }

    static boolean isError(long answer) {
        return answer < LOW && answer >= LOW - 6;
    }

    /** The call is refused with the ERROR, and all but told() of its k is as it was. */
    static void refuse(String call, Supplier<NamedPrices> made, long error,
            ToLongFunction<NamedPrices> asked) {
        refuse(call, made, error, asked, x -> { });
    }

    /** Likewise, where the document has the refused call change something: the other does that. */
    static void refuse(String call, Supplier<NamedPrices> made, long error,
            ToLongFunction<NamedPrices> asked, java.util.function.Consumer<NamedPrices> likewise) {
        NamedPrices x = made.get();
        Due.is(call, asked.applyAsLong(x), error);
        Seen got = Seen.of(x);
        NamedPrices y = made.get();
        likewise.accept(y);
        Seen due = Seen.of(y);
        Due.is(call + ": how much is seen", got.answers.size(), due.answers.size());
        for (int i = 0; i < Math.min(got.answers.size(), due.answers.size()); i++) {
            boolean counted = i < 6 && LOW - 1 - i == error;
            Due.is(call + ", then " + got.calls.get(i), got.answers.get(i),
                due.answers.get(i) + (counted ? 1 : 0));
        }
    }
}
