import java.lang.management.ManagementFactory;

/** What is made: an object makes its rows when it is made, and no call makes anything more. */
public final class RoomTest {
    private static final Check CHECK = new Check("RoomTest");
    // The room has 7.3 million fields and elements, some 14,000 for each of 512 calls.
    private static final long MOST_BYTES_OF_ONE = 32_000;
    private static final String TEXT = "figure a;figure b;figure c;figure d;"
            + "tribe p skill 4 stiff 2;tribe q skill 0 stiff 7 mirrors;tribe r skill 9;tribe s skill 1;"
            + "move a b finger 2 hard 3;move a c finger 7 hard 5 wrong d;move c a finger 2 hard 1;"
            + "move b c finger 0 hard 9;move c b finger 5 hard 2;move d d finger 1 hard 0;"
            + "worth p a 1;worth p b 5;worth q b 2;worth q c 7;worth r d 9;cord 4;draw 5;"
            + "slip (hard*10-skill*5+worn)%90 or wet and not day;";

    public static void main(String[] args) {
        if (!(ManagementFactory.getThreadMXBean() instanceof com.sun.management.ThreadMXBean bean)
                || !bean.isThreadAllocatedMemorySupported()) {
            System.out.println("RoomTest: this machine does not tell what is made");
            return;
        }
        byte[] text = Check.bytes(TEXT);
        all(new CradleTreaty(), text);
        long id = Thread.currentThread().getId();
        long made = MOST_BYTES_OF_ONE + 1;
        long called = 1;
        // What the measuring itself makes comes in now and then: the least of some times counts.
        for (int i = 0; i < 5; i++) {
            long start = bean.getThreadAllocatedBytes(id);
            long ahead = bean.getThreadAllocatedBytes(id);
            CradleTreaty x = new CradleTreaty();
            long between = bean.getThreadAllocatedBytes(id);
            all(x, text);
            long behind = bean.getThreadAllocatedBytes(id);
            made = Math.min(made, between - ahead - (ahead - start));
            called = Math.min(called, behind - between - (ahead - start));
        }
        CHECK.due("bytes of an object: " + made, true, made <= MOST_BYTES_OF_ONE);
        CHECK.due("bytes of calls: " + called, true, called <= 0);
        CHECK.finish();
    }

    private static int all(CradleTreaty x, byte[] text) {
        Check.feed(x, text);
        int sum = x.treaty() + x.fault(0);
        for (int i = -1; i < 12; i++) {
            sum += x.tribe(1, i) + x.move(i, 4) + x.worth(1, i) + x.slip(1, i) + x.take(i & 3, i);
            sum += x.rain() + x.give(i) + x.night() + (x.undo() ? 1 : 0) + (x.redo() ? 1 : 0);
            sum += x.way(i, 1) + x.surest(i, 2, 0) + x.makes(i) + x.hands(i, 1) + x.deal(1, i);
            sum += x.fair() + x.good() + x.round(i) + x.near(i) + x.both(1, i) + x.clumsy(i);
            sum += x.idle() + x.ends() + x.sources() + x.will(1, i) + x.mirror(i) + x.lies(i);
            sum += x.seen(i, 1, false) + x.felt(i, 1, false) + (x.untell(i) ? 1 : 0) + x.later(i);
            sum += x.rows(i) + x.sure(i, 3) + x.ask(i, 3) + x.image(i) + x.back(i) + x.about(i);
        }
        return sum + x.end(0);
    }
}
