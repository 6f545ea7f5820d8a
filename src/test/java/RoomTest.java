import java.lang.management.ManagementFactory;

/** What a run of 512 calls makes stays far below the room of 7.3 million fields and elements. */
public final class RoomTest {
    // a field takes 4 or 8 bytes, so that so many bytes are 730,000 elements at most: a tenth of the room
    private static final long MOST_BYTES = 4L * 730_000;
    private static final int CALLS = 512;

    interface Calls {
        void once(PraiseLift x);
    }

    public static void main(String[] args) {
        Check check = new Check();
        String house = "floors 5;man 0 30 4;man 0 50 7;man 2 20 0;card 10 5;card 4 9;card 20 1;piano 60;";
        measure(check, "made", x -> new PraiseLift(), 16);
        measure(check, "house", x -> x.house(0), CALLS);
        Calls asked = x -> {
            x.rides();
            x.to(1);
            x.look(1);
            x.week(1, 9, 48, 3);
            x.span(1, 10, 9, 48, 0, 0);
            x.ahead(99, 1);
            x.times(0, 0, 999);
            x.streak(12, 12, 3, 0);
        };
        measure(check, "asked", x -> asked.once(x), CALLS / 8, house);
        measure(check, "kept", x -> {
            x.work(0);
            x.image();
            x.restore();
            x.undo();
        }, CALLS / 4, house);
        measure(check, "read", x -> {
            x.law(0);
            x.book(0);
        }, CALLS / 2, house);
        check.end("RoomTest");
    }

    private static void measure(Check check, String name, Calls calls, int times, String... houses) {
        com.sun.management.ThreadMXBean bean = (com.sun.management.ThreadMXBean) ManagementFactory.getThreadMXBean();
        long me = Thread.currentThread().getId();
        PraiseLift x = new PraiseLift();
        for (String house : houses) {
            Check.house(x, house);
        }
        calls.once(x);
        long before = bean.getThreadAllocatedBytes(me);
        for (int i = 0; i < times; i++) {
            calls.once(x);
        }
        long bytes = bean.getThreadAllocatedBytes(me) - before;
        System.out.println("  " + name + ": " + bytes + " bytes in " + times);
        check.due(name + " makes little", bytes <= MOST_BYTES ? 1 : 0, 1);
    }
}
