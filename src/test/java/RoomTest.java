import java.lang.management.ManagementFactory;

/** What a run makes: an object makes its rows once, and no call makes anything. */
public final class RoomTest {
    private static final Check check = new Check("RoomTest");
    private static final com.sun.management.ThreadMXBean threads =
        (com.sun.management.ThreadMXBean) ManagementFactory.getThreadMXBean();

    public static void main(String[] args) {
        String pegs = ";pppppp;pppppp;pppppp;pppppp;ppp#pp";
        MarbleVotes x = Hills.made("m56001122" + pegs, 0, 0, 1, 1, 2, 2, 0, 3, 1, 4, 2, 5, 0, 2, 0, 3);
        int[] count = {1, 1, 2, 1, 1, 1, 1};
        Hills.write(x, 1, Hills.INTS, count);
        callAll(x);
        long before = made();
        for (int k = 0; k < 512; k++) {
            callAll(x);
        }
        check.holds("512 of all calls make next to nothing", made() - before < 4096);
        before = made();
        for (int k = 0; k < 100; k++) {
            new MarbleVotes();
        }
        check.holds("an object takes some eight thousand bytes at most", made() - before < 100 * 8192);
        check.end();
    }

    private static long made() {
        return threads.getThreadAllocatedBytes(Thread.currentThread().getId());
    }

    private static void callAll(MarbleVotes x) {
        x.hill(0, Hills.SHORTS, 0, 20);
        x.set(0, 1);
        x.wet(true);
        x.back(1);
        x.vote(0, 3);
        x.roll(0, 1, Hills.INTS, 0);
        x.chance(0, 0, 0);
        x.expects(0, 0);
        x.start(0, 0);
        x.move(0);
        x.answer(0, 1);
        x.likeliest(0);
        x.tally(0);
        x.winner(1);
        x.dams(1);
        x.ways(-1, 1, Hills.INTS, 0);
        x.ways(0, 1, Hills.INTS, 0);
        x.fair();
        x.sheet(3, 2, 60);
        x.put(3, 0, 7);
        x.cell(3, 0, 2);
        x.copy(3, 0, 3, 1, 50);
        x.lose(3);
        x.tell(2);
        x.weigh(2);
        x.as(0, 2);
    }
}
