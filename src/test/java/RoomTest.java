import com.sun.management.ThreadMXBean;
import java.lang.management.ManagementFactory;

/** All rows are made in constructors: no call that does not throw makes an object. */
public final class RoomTest {
    private static final int LANDS = 20;
    private static final int ROUNDS = 9;
    /** A run has room for 7.3 million elements, at 512 calls some 14,000 a call; a land is made once. */
    private static final long MOST_BYTES_OF_LAND = 40_000;
    /** What the machine itself may make while it warms up. */
    private static final long MOST_BYTES_OF_CALLS = 20_000;

    public static void main(String[] args) {
        ThreadMXBean bean = (ThreadMXBean) ManagementFactory.getThreadMXBean();
        Checks checks = new Checks();
        bean.getThreadAllocatedBytes(Thread.currentThread().getId());
        DrumTowns[] lands = new DrumTowns[LANDS];
        long start = bean.getThreadAllocatedBytes(Thread.currentThread().getId());
        for (int i = 0; i < LANDS; i++) {
            lands[i] = new DrumTowns();
        }
        long made = bean.getThreadAllocatedBytes(Thread.currentThread().getId());
        for (DrumTowns land : lands) {
            useAll(land);
        }
        long used = bean.getThreadAllocatedBytes(Thread.currentThread().getId());
        if (made - start > MOST_BYTES_OF_LAND * LANDS) {
            checks.report("a new object takes " + (made - start) / LANDS + " bytes");
        }
        if (used - made > MOST_BYTES_OF_CALLS) {
            checks.report("the calls took " + (used - made) + " bytes");
        }
        checks.end();
    }

    private static void useAll(DrumTowns land) {
        for (int i = 0; i < 6; i++) {
            land.addTown(100);
        }
        for (int i = 0; i < ROUNDS; i++) {
            change(land, i);
            look(land, i);
        }
    }

    private static void change(DrumTowns land, int round) {
        land.set(0, round);
        land.put(0, round, 0);
        land.put(1, round, 1);
        land.put(2, round, 2);
        land.pull(0, round, 0);
        land.move(1, 2, round, 1);
        land.trade(2, 3);
        land.trade(2, 3);
        land.turn(4, round);
        land.file(0, 0);
        land.play(2);
        land.lend(0, 1, 3);
        land.lend(1, 2, 2);
        land.lend(2, 0, 1);
        land.repay(1, 0, 1);
        land.settle();
        land.append('(');
        land.append('a');
        land.append('b');
        land.append(')');
        land.firstError();
        land.learn(round % 6);
        land.append('-');
        land.clearBuffer();
        land.set(1, 10);
        land.undo();
    }

    private static void look(DrumTowns land, int round) {
        land.town(2, round);
        land.step(2, round, 2);
        land.wear(2, round);
        land.debt(0, 1);
        land.count(round);
        land.setting(2);
        land.ifPlayed(2, 4);
        land.lastsFor(2);
        land.bestTurn(2, 0);
        land.bestDrum(2);
        land.bestTrades(10);
        land.ring(0);
        land.tuneShare();
        land.digest();
    }
}
