import java.lang.management.ManagementFactory;

/** All calls of a run live in one room: what an object takes is made when it is, and calls make nothing. */
public final class RoomTest {
    private static final com.sun.management.ThreadMXBean ROOM =
            (com.sun.management.ThreadMXBean) ManagementFactory.getThreadMXBean();
    /** What looking at the room may take by itself. */
    private static final long SLACK = 4096;

    private RoomTest() {
    }

    private static long taken() {
        return ROOM.getThreadAllocatedBytes(Thread.currentThread().getId());
    }

    public static void main(String[] args) {
        Town town = new Town();
        BurntOak oak = town.oak;
        town.tell("on until oak or 2 left;left or right or far 20;loose or back or see oak;", 7);
        town.tell("on until oak;over church or 1 left not oak;", 7);
        oak.went(0, 0, Town.EAST, 9, 7);
        oak.went(0, 1, Town.EAST, 75, 7);
        oak.image(0);
        oak.tray(0, 3, 2);
        for (int round = 0; round < 3; round++) {
            use(oak);
        }
        long before = taken();
        for (int round = 0; round < 20; round++) {
            use(oak);
        }
        long calls = taken() - before;
        Check.so("calls make nothing, but took " + calls + " bytes", calls <= SLACK);
        before = taken();
        BurntOak another = new BurntOak();
        long made = taken() - before;
        another.image(0);
        another.image(1);
        another.image(2);
        long withImages = taken() - before;
        Check.so("an object takes " + made + " bytes", made < 120_000);
        Check.so("with its images " + withImages + " bytes", withImages < 170_000);
        Check.finish(RoomTest.class);
    }

    private static void use(BurntOak oak) {
        for (int year = 40; year < 110; year += 10) {
            for (int state = 0; state < 44; state += 7) {
                oak.out(state, 0, year);
                oak.on(state, year, 0);
                oak.leads(0, 0, state, year, 2, 1);
                oak.holds(1, 1, state, year);
                oak.end(0, 2, state, year, 0);
                oak.odds(0, 3, state, year, 2);
                oak.parts(1, 4, state, year);
                oak.two(0, state, 1, state, 5, year, 1);
                oak.ask(0, 4, 0, state, year, 5, true);
                oak.shortest(3, state, 7, year, 2, 0);
            }
            oak.hangs(0, 0, 2, year, true);
            oak.stands(0, 0, 2, year, true);
        }
        oak.years(0, 0, Town.EAST, 0);
        oak.learned(0, 0);
        oak.shortest(63, Town.EAST, 9, 9, 3, -1);
        oak.feed(0x6c656674, 0x3b202020, 0, 0, 0);
        oak.telling(5, 0, 0);
        oak.say(0, 0, 0);
        oak.went(0, 0, 0, 0, 0);
        oak.teller();
        oak.image(0);
        oak.restore(0);
    }
}
