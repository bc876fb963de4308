/** The example of README.md answers what is written there. */
public final class ReadmeTest {
    private ReadmeTest() {
    }

    public static void main(String[] args) {
        BurntOak oak = new BurntOak();
        int door = oak.place(10, 10);
        int corner = oak.place(20, 10);
        int pond = oak.place(20, 20);
        int street = oak.way(door, corner, 0, 4, 0, 200);
        oak.way(corner, pond, 1, 3, 50, 200);
        int walker = oak.walker(oak.tongue(), 4095, false, true, 5);
        oak.feed(0x6f6e2031, 0x3b6c6566, 0x743b2020, 0x20202020, 0x20202020);
        int telling = oak.telling(10, pond, 0);
        int facing = 4 * street + 1;
        Check.so("right in the year 60", oak.right(telling, walker, facing, 60));
        Check.same("the first year", oak.years(telling, walker, facing, 1), 50);
        Check.finish(ReadmeTest.class);
    }
}
