import java.lang.management.ManagementFactory;

/** A run of 512 dear calls stays far below the room: some 600,000 objects, 7.3 million fields and elements. */
public final class RoomTest {
    public static void main(String[] args) {
        com.sun.management.ThreadMXBean bean =
                (com.sun.management.ThreadMXBean) ManagementFactory.getThreadMXBean();
        run();
        long before = bean.getCurrentThreadAllocatedBytes();
        run();
        long made = bean.getCurrentThreadAllocatedBytes() - before;
        // Four bytes an element is what an int takes: a million of them is a seventh of the room.
        Checks.holds(made + " bytes were made in one run", made < 4000000L);
        Checks.end();
    }

    private static void run() {
        ScrapedSkin x = Checks.skin("sw8r5l1k99;hi9f0;hi9f1;hi9f0;hi9f0", "abcd/abcd", "a", "bcd", "a.b", "cd/ab", "dddd");
        Checks.tell(x, 1, "y:!(s<1|d>9)&[s+d*f-i/r]<y?1-[s*[s*[s*[s*[s*[s]]]]]];y:s/9");
        x.law(0);
        x.scribes(9);
        for (int i = 0; i < 470; i += 10) {
            x.years(30, i);
            x.faded(0, 0, 1);
            x.lost(0, 0, 1);
            x.fits(-1);
            x.ask();
            x.quire(0);
            x.order(0);
            x.rests(0, -1);
            x.odds(0, 0, 33, 4);
            if (x.count(6) > 900) {
                Checks.tell(x, 0, "sw8r5l1k99;hi9f0;hi9f1;hi9f0;hi9f0");
            }
        }
    }
}
