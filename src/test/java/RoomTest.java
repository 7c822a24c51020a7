import com.sun.management.ThreadMXBean;
import java.lang.management.ManagementFactory;

/** All 512 calls of one object stay within a small part of the room, however much they work out. */
public final class RoomTest {
    private static final int CALLS = 512;
    /** The room holds some 600,000 objects, and the smallest of them take 16 bytes. */
    private static final long MOST_BYTES = 600_000 * 16;

    public static void main(String[] args) {
        staysSmall("a tree", "Ba=?a+.B-a1.B-a1" + "+".repeat(10) + "1".repeat(11), "+.B7+.B6+.B3.B1", 400);
        staysSmall("pairs", "Ba=?a+h:.B-a1:12h:.B-a1:341", "+.B7+.B6.B3", 397);
        staysSmall("functions", "Babcd=?a+....B-a1bcd....B-a1dcb1", "....B7123", 255);
        Driver.end();
    }

    private static void staysSmall(String what, String definition, String asked, int callsEach) {
        ThreadMXBean meter = (ThreadMXBean) ManagementFactory.getThreadMXBean();
        long me = Thread.currentThread().getId();
        long before = meter.getThreadAllocatedBytes(me);
        NeedMachine machine = new NeedMachine();
        int calls = type(machine, definition) + 1;
        machine.define();
        int askings = 0;
        while (calls < CALLS - 3) {
            calls += type(machine, asked) + 1;
            machine.ask();
            askings++;
        }
        long used = meter.getThreadAllocatedBytes(me) - before;
        System.out.println(what + ": " + used + " bytes for " + askings + " askings");
        Driver.same(what + " fit", used < MOST_BYTES, true);
        Driver.same(what + " calls", machine.count(4), callsEach * askings);
    }

    private static int type(NeedMachine machine, String text) {
        int calls = 0;
        for (int i = 0; i < text.length(); i += 8) {
            machine.type(Driver.pack(text.substring(i, Math.min(text.length(), i + 8))));
            calls++;
        }
        return calls;
    }
}
