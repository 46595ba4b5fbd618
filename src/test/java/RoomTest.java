import com.sun.management.ThreadMXBean;
import java.lang.management.ManagementFactory;

/** The room: an object is small, and its calls make nothing but laws and exceptions. */
public final class RoomTest {
    private static final ThreadMXBean BEAN = (ThreadMXBean) ManagementFactory.getThreadMXBean();

    public static void main(String[] args) {
        newObjects();
        calls();
        lawsAndRefusals();
        Check.finish();
    }

    private static long made() {
        return BEAN.getThreadAllocatedBytes(Thread.currentThread().getId());
    }

    private static void within(String what, long bytes, long most) {
        Check.due(what + ": " + bytes + " bytes, at most " + most, bytes <= most, true);
    }

    private static void newObjects() {
        new TurfBog();
        long before = made();
        TurfBog x = new TurfBog();
        within("a new object", made() - before, 80_000);
        Check.due("of no peat", x.hags(), 0);
    }

    private static TurfBog full() {
        TurfBog x = Check.bog("peat 0" + " 9".repeat(25) + ";water 0" + " 2".repeat(25) + ";shower 40;drain 24 23 22",
                "hearth hands 9 need 99;".repeat(6) + "right 0 1 2 3 4 5 6 7 8;right 1 9 10 11 12 13;right 2 14 15 16 17;"
                + "right 3 18 19 20;right 4 21 22;right 5 23 24 0 1 2");
        return Check.law(x, "dry 5 if not rain and (sun+water > 7 or laid);soak 3 if rain;sink 2 if depth > 3");
    }

    private static void calls() {
        TurfBog x = full();
        every(x);
        long before = made();
        for (int i = 0; i < 10; i++) {
            every(x);
        }
        within("some 500 calls", made() - before, 4_000);
    }

    private static void every(TurfBog x) {
        x.days(60);
        for (int what = 0; what < 17; what++) {
            x.cell(7, what);
        }
        x.dig(3);
        x.sky(3, false);
        x.feed(0x00041418, 0, 0, 0, 0);
        x.end(4);
        x.net();
        x.flood();
        x.trunks();
        x.likely();
        x.probe();
        x.falls(true);
        x.falls(false);
        x.ask();
        x.placed(-1);
        x.pairs(2);
        x.even();
        x.bridges();
        x.far(0, 24);
        x.odds(5, 3);
        x.ahead(0, 60, 2);
        x.trial(60, true);
        x.span(60, true);
        x.image();
        x.undo();
        x.log(5, 2);
        x.back();
    }

    private static void lawsAndRefusals() {
        TurfBog x = full();
        String law = "dry 5 if not rain and (sun+water > 7 or laid);".repeat(8);
        byte[] text = law.substring(0, law.length() - 1).getBytes();
        long before = made();
        for (int i = 0; i < 20; i++) {
            Check.put(x, text);
            x.law();
        }
        within("twenty long laws", made() - before, 20 * 4_000);
        before = made();
        for (int i = 0; i < 400; i++) {
            try {
                x.cell(25, 0);
            } catch (IndexOutOfBoundsException e) {
                continue;
            }
        }
        within("400 refusals", made() - before, 400 * 2_000);
    }
}
