import com.sun.management.ThreadMXBean;
import java.lang.management.ManagementFactory;

/** All calls of a run live in one room: once an object stands, its calls make next to nothing. */
public final class RoomTest {
    private static final int MOST_FOR_ONE = 40000;
    private static final int MOST_FOR_CALLS = 10000;

    public static void main(String[] args) {
        ThreadMXBean room = (ThreadMXBean) ManagementFactory.getThreadMXBean();
        long me = Thread.currentThread().getId();
        // The first turn is not counted: classes are loaded in it.
        calls(made());
        long before = room.getThreadAllocatedBytes(me);
        NamedPrices x = made();
        long between = room.getThreadAllocatedBytes(me);
        calls(x);
        long after = room.getThreadAllocatedBytes(me);
        Due.holds("an object takes " + (between - before) + " bytes",
            between - before <= MOST_FOR_ONE);
        Due.holds("512 calls take " + (after - between) + " bytes",
            after - between <= MOST_FOR_CALLS);
        Due.end();
    }

    private static NamedPrices made() {
        return new NamedPrices();
    }

    private static void calls(NamedPrices x) {
        for (int i = 0; i < 6; i++) {
            x.person(i + 1, 900000, 12);
        }
        for (int i = 0; i < 12; i++) {
            x.thing(i % 6, 50);
        }
        for (int i = 0; i < 72; i++) {
            x.worth(i % 6, i / 6, i * 37 % 300);
        }
        for (int i = 0; i < 20; i++) {
            x.feed(0x762B762B762B762BL >>> 8, 7);
            x.text(i % 2);
            x.part(40);
            x.then(40, i % 7);
            x.whose(40, i % 12);
            x.years(10);
            x.gain(i % 12, 70, 0);
            x.taken(i % 12, 70, 1);
            x.right(i % 12);
            x.voice(i % 6, 3, i);
            x.sheet(i % 4, 16, 24);
            x.move(i % 4, 0, i % 4, 1, 23);
            x.worths(i % 4, i % 6);
            x.judge(i % 4);
            x.image();
            x.restore();
            x.tell(i);
            x.check(i % 6);
            x.told(9);
            x.firm(i % 6, 2);
            x.pair(i % 12, 0, 5);
        }
    }
}
