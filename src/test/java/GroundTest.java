/** Promises 1 to 8, and 38 as far as it counts the ground. */
public final class GroundTest {
    private GroundTest() {
    }

    public static void main(String[] args) {
        newObject();
        places();
        ways();
        waysOverYears();
        marks();
        ends();
        endsChangesWhatIsThere();
        state();
        out();
        on();
        onIsExact();
        nearOnes();
        onAndOutByYears();
        Check.finish(GroundTest.class);
    }

    private static void newObject() {
        BurntOak oak = new BurntOak();
        for (int what = 0; what < 8; what++) {
            Check.same("1: count(" + what + ")", oak.count(what), 0);
        }
        Check.same("38: count(8)", oak.count(8), -1);
        Check.same("38: count(-1)", oak.count(-1), -1);
        Check.same("1: fault(0)", oak.fault(0), 0);
        Check.same("1: fault(1)", oak.fault(1), -1);
        Check.same("1: teller()", oak.teller(), -1);
        for (int tray = 0; tray < 4; tray++) {
            int t = tray;
            Check.thrown("1: write to tray " + t, Check.STATE, () -> oak.write(t, 0, 0));
        }
        for (int image = 0; image < 3; image++) {
            int i = image;
            Check.thrown("1: restore " + i, Check.STATE, () -> oak.restore(i));
        }
        Check.thrown("1: a state", Check.NO_SUCH, () -> oak.state(0, 0));
    }

    private static void places() {
        BurntOak oak = new BurntOak();
        Check.same("2: the first place", oak.place(0, 0), 0);
        Check.same("2: the second place", oak.place(99, 99), 1);
        Check.same("2: same x", oak.place(0, 99), 2);
        Check.thrown("2: x below", Check.ARGUMENT, () -> oak.place(-1, 5));
        Check.thrown("2: x above", Check.ARGUMENT, () -> oak.place(100, 5));
        Check.thrown("2: y below", Check.ARGUMENT, () -> oak.place(5, -1));
        Check.thrown("2: y above", Check.ARGUMENT, () -> oak.place(5, 100));
        Check.thrown("2: one is there", Check.ARGUMENT, () -> oak.place(99, 99));
        Check.same("2: they changed nothing", oak.count(0), 3);
        for (int n = 3; n < 40; n++) {
            Check.same("2: place " + n, oak.place(n, 1), n);
        }
        Check.same("2: a 41st", oak.place(50, 50), -1);
        Check.same("2: still 40", oak.count(0), 40);
        Check.thrown("2: full, and one is there", Check.ARGUMENT, () -> oak.place(0, 0));
        Check.thrown("2: full, and x", Check.ARGUMENT, () -> oak.place(100, 0));
    }

    private static void ways() {
        BurntOak oak = new BurntOak();
        for (int n = 0; n < 12; n++) {
            oak.place(n, n * n % 97);
        }
        Check.same("3: the first way", oak.way(0, 1, 0, 1, 0, 200), 0);
        Check.same("3: the second way", oak.way(1, 2, 2, 99, 5, 5), 1);
        Check.thrown("3: no place a", Check.NO_SUCH, () -> oak.way(12, 0, 9, 0, 9, 8));
        Check.thrown("3: no place b", Check.NO_SUCH, () -> oak.way(0, -1, 0, 1, 0, 200));
        Check.thrown("3: both are one", Check.ARGUMENT, () -> oak.way(3, 3, 0, 1, 0, 200));
        Check.thrown("3: kind 3", Check.ARGUMENT, () -> oak.way(3, 4, 3, 1, 0, 200));
        Check.thrown("3: kind -1", Check.ARGUMENT, () -> oak.way(3, 4, -1, 1, 0, 200));
        Check.thrown("3: length 0", Check.ARGUMENT, () -> oak.way(3, 4, 0, 0, 0, 200));
        Check.thrown("3: length 100", Check.ARGUMENT, () -> oak.way(3, 4, 0, 100, 0, 200));
        Check.thrown("3: from -1", Check.ARGUMENT, () -> oak.way(3, 4, 0, 1, -1, 200));
        Check.thrown("3: to 201", Check.ARGUMENT, () -> oak.way(3, 4, 0, 1, 0, 201));
        Check.thrown("3: from above to", Check.ARGUMENT, () -> oak.way(3, 4, 0, 1, 9, 8));
        Check.same("3: they changed nothing", oak.count(1), 2);
        int made = 2;
        for (int a = 0; a < 12; a++) {
            for (int b = a + 1; b < 12 && made < 60; b++) {
                if (a > 1 || b != a + 1) {
                    Check.same("3: way " + made, oak.way(b, a, 1, 7, 0, 200), made);
                    made++;
                }
            }
        }
        Check.same("3: a 61st", oak.way(10, 11, 0, 1, 0, 200), -1);
        Check.same("3: still 60", oak.count(1), 60);
        Check.thrown("3: full, and a year in common", Check.ARGUMENT, () -> oak.way(0, 1, 0, 1, 0, 200));
        Check.thrown("3: full, and no such place", Check.NO_SUCH, () -> oak.way(0, 12, 0, 1, 0, 200));
    }

    private static void waysOverYears() {
        BurntOak oak = new BurntOak();
        oak.place(0, 0);
        oak.place(5, 0);
        oak.way(0, 1, 0, 1, 50, 60);
        Check.thrown("3: all years in common", Check.ARGUMENT, () -> oak.way(0, 1, 0, 1, 50, 60));
        Check.thrown("3: one year, at its end", Check.ARGUMENT, () -> oak.way(0, 1, 0, 1, 60, 70));
        Check.thrown("3: one year, at its beginning", Check.ARGUMENT, () -> oak.way(0, 1, 0, 1, 40, 50));
        Check.thrown("3: the other way about", Check.ARGUMENT, () -> oak.way(1, 0, 0, 1, 55, 55));
        Check.thrown("3: round about", Check.ARGUMENT, () -> oak.way(1, 0, 0, 1, 0, 200));
        Check.same("3: behind", oak.way(1, 0, 0, 1, 61, 70), 1);
        Check.same("3: ahead", oak.way(0, 1, 0, 1, 40, 49), 2);
        oak.ends(true, 0, 55);
        Check.same("3: in years in which it is there no more", oak.way(0, 1, 0, 1, 56, 60), 3);
    }

    private static void marks() {
        BurntOak oak = new BurntOak();
        oak.place(0, 0);
        Check.same("4: the first mark", oak.mark(0, 11, true, 0, 200), 0);
        Check.same("4: one just like it", oak.mark(0, 11, true, 0, 200), 1);
        Check.thrown("4: no place", Check.NO_SUCH, () -> oak.mark(1, 12, true, 9, 8));
        Check.thrown("4: no place -1", Check.NO_SUCH, () -> oak.mark(-1, 0, true, 0, 0));
        Check.thrown("4: kind 12", Check.ARGUMENT, () -> oak.mark(0, 12, true, 0, 200));
        Check.thrown("4: kind -1", Check.ARGUMENT, () -> oak.mark(0, -1, true, 0, 200));
        Check.thrown("4: from above to", Check.ARGUMENT, () -> oak.mark(0, 0, true, 9, 8));
        Check.thrown("4: from -1", Check.ARGUMENT, () -> oak.mark(0, 0, true, -1, 8));
        Check.thrown("4: to 201", Check.ARGUMENT, () -> oak.mark(0, 0, true, 0, 201));
        Check.same("4: they changed nothing", oak.count(2), 2);
        for (int n = 2; n < 40; n++) {
            Check.same("4: mark " + n, oak.mark(0, n % 12, false, n, n), n);
        }
        Check.same("4: a 41st", oak.mark(0, 0, false, 0, 200), -1);
        Check.same("4: still 40", oak.count(2), 40);
        Check.thrown("4: full, and kind", Check.ARGUMENT, () -> oak.mark(0, 12, true, 0, 200));
    }

    private static void ends() {
        BurntOak oak = new BurntOak();
        oak.place(0, 0);
        oak.place(5, 0);
        oak.way(0, 1, 0, 1, 50, 150);
        oak.mark(0, 0, false, 20, 30);
        Check.thrown("5: no way 1", Check.NO_SUCH, () -> oak.ends(true, 1, 100));
        Check.thrown("5: no way -1", Check.NO_SUCH, () -> oak.ends(true, -1, 100));
        Check.thrown("5: no mark 1", Check.NO_SUCH, () -> oak.ends(false, 1, 25));
        Check.thrown("5: ahead of the way", Check.ARGUMENT, () -> oak.ends(true, 0, 49));
        Check.thrown("5: behind the way", Check.ARGUMENT, () -> oak.ends(true, 0, 151));
        Check.thrown("5: ahead of the mark", Check.ARGUMENT, () -> oak.ends(false, 0, 19));
        Check.thrown("5: behind the mark", Check.ARGUMENT, () -> oak.ends(false, 0, 31));
        Check.same("5: the same year", oak.ends(true, 0, 150), 150);
        Check.same("5: earlier", oak.ends(true, 0, 90), 150);
        Check.same("5: the mark is another thing", oak.ends(false, 0, 20), 30);
        Check.thrown("5: behind where it ends now", Check.ARGUMENT, () -> oak.ends(true, 0, 91));
        Check.same("5: with its first year", oak.ends(true, 0, 50), 90);
        Check.same("5: and again", oak.ends(true, 0, 50), 50);
        Check.thrown("5: the mark can't be longer again", Check.ARGUMENT, () -> oak.ends(false, 0, 21));
    }

    private static void endsChangesWhatIsThere() {
        BurntOak oak = new BurntOak();
        oak.place(0, 0);
        oak.place(5, 0);
        oak.way(0, 1, 0, 1, 0, 200);
        oak.mark(0, 0, false, 0, 200);
        Check.same("5: the way is there", oak.on(1, 100, -1), 1);
        Check.same("5: the mark is there", oak.worth(0, 0, 100, 1), 0);
        oak.ends(true, 0, 99);
        oak.ends(false, 0, 99);
        Check.same("5: in its last year the way is there", oak.on(1, 99, -1), 1);
        Check.same("5: then no more", oak.on(1, 100, -1), 0);
        Check.same("5: in its last year the mark is there", oak.worth(0, 0, 99, 1), 0);
        Check.same("5: then no more", oak.worth(0, 0, 100, 1), -1);
        Check.same("5: there is still a way", oak.count(1), 1);
    }

    private static void state() {
        Town town = new Town();
        BurntOak oak = town.oak;
        int[][] due = {{1, 1, 0}, {0, 0, 0}, {0, 1, 0}, {1, 0, 0}, {2, 1, 1}, {1, 0, 1}, {1, 1, 1}, {2, 0, 1}};
        for (int s = 0; s < due.length; s++) {
            for (int what = 0; what < 3; what++) {
                Check.same("6: state(" + s + ", " + what + ")", oak.state(s, what), due[s][what]);
            }
        }
        Check.same("6: the last state", oak.state(43, 0), 11);
        Check.thrown("6: no state 44", Check.NO_SUCH, () -> oak.state(44, 5));
        Check.thrown("6: no state -1", Check.NO_SUCH, () -> oak.state(-1, 0));
        Check.thrown("6: what 3", Check.ARGUMENT, () -> oak.state(0, 3));
        Check.thrown("6: what -1", Check.ARGUMENT, () -> oak.state(0, -1));
    }

    private static void out() {
        BurntOak oak = new Town().oak;
        // Come to place 2 from the west: 7 is left, 8 right, 3 straight on; the way back doesn't count.
        int[] due = {1, 1, 1};
        for (int side = 0; side < 3; side++) {
            Check.same("7: out(4, " + side + ")", oak.out(4, side, 9), due[side]);
        }
        // The other way about: 8 is left, 7 right.
        Check.same("7: from the east, left", oak.out(10, 0, 9), 1);
        // At place 2 facing east, not come: the way to the west is straight behind.
        Check.same("7: facing east, neither", oak.out(9, 2, 9), 2);
        Check.same("7: facing east, left", oak.out(9, 0, 9), 1);
        // Come from the south (way 7, arrow 15, state 30): 1 is left, 3 right, 7 on.
        Check.same("7: from the south, left", oak.out(30, 0, 9), 1);
        Check.same("7: from the south, right", oak.out(30, 1, 9), 1);
        Check.same("7: from the south, neither", oak.out(30, 2, 9), 1);
        Check.same("7: at a dead end", oak.out(16, 2, 9), 0);
        Check.thrown("7: no state", Check.NO_SUCH, () -> oak.out(44, 3, 201));
        Check.thrown("7: side 3", Check.ARGUMENT, () -> oak.out(0, 3, 9));
        Check.thrown("7: side -1", Check.ARGUMENT, () -> oak.out(0, -1, 9));
        Check.thrown("7: year 201", Check.ARGUMENT, () -> oak.out(0, 0, 201));
        Check.thrown("7: year -1", Check.ARGUMENT, () -> oak.out(0, 0, -1));
    }

    private static void on() {
        BurntOak oak = new Town().oak;
        Check.same("8: from the door", oak.on(1, 9, -1), 1);
        Check.same("8: where", oak.on(1, 9, 0), 0);
        Check.same("8: not two", oak.on(1, 9, 1), -1);
        Check.same("8: below NONE", oak.on(1, 9, -2), -1);
        Check.same("8: straight on at 2", oak.on(4, 9, 0), 8);
        // Come from 6 to 1: left and right are turned alike, and both lie across.
        Check.same("8: two turned alike", oak.on(22, 9, -1), 2);
        Check.same("8: the first by number", oak.on(22, 9, 0), 2);
        Check.same("8: the second by number", oak.on(22, 9, 1), 4);
        Check.same("8: a dead end", oak.on(16, 9, -1), 0);
        Check.same("8: of none the first", oak.on(16, 9, 0), -1);
        Check.thrown("8: no state", Check.NO_SUCH, () -> oak.on(44, 201, 0));
        Check.thrown("8: year 201", Check.ARGUMENT, () -> oak.on(0, 201, 0));
        Check.thrown("8: year -1", Check.ARGUMENT, () -> oak.on(0, -1, 0));
    }

    /** Turns that differ by little, lie behind, or are like though their lengths differ. */
    private static void onIsExact() {
        BurntOak oak = new BurntOak();
        int[][] places = {{0, 50}, {10, 50}, {20, 50}, {90, 50}, {98, 51}, {10, 0}, {5, 60}, {5, 40}};
        for (int[] p : places) {
            oak.place(p[0], p[1]);
        }
        oak.way(0, 1, 0, 1, 0, 200);
        oak.way(1, 4, 0, 1, 0, 200);
        Check.same("8: the only way", oak.on(0, 0, 0), 4);
        oak.way(1, 3, 0, 1, 50, 200);
        Check.same("8: straight is less turned than nearly straight", oak.on(0, 50, 0), 8);
        Check.same("8: and it alone", oak.on(0, 50, -1), 1);
        oak.way(1, 2, 0, 1, 100, 200);
        Check.same("8: of one direction, two lengths", oak.on(0, 100, -1), 2);
        Check.same("8: the second of them", oak.on(0, 100, 1), 12);
        BurntOak behind = new BurntOak();
        for (int[] p : places) {
            behind.place(p[0], p[1]);
        }
        behind.way(0, 1, 0, 1, 0, 200);
        behind.way(1, 6, 0, 1, 0, 200);
        behind.way(1, 7, 0, 1, 0, 200);
        Check.same("8: two that go half back, to both sides", behind.on(0, 0, -1), 2);
        behind.way(1, 5, 0, 1, 0, 200);
        Check.same("8: across is less turned than half back", behind.on(0, 0, 0), 12);
        Check.same("8: and it alone", behind.on(0, 0, -1), 1);
        Check.same("8: not come, the way behind one is a way out", behind.out(3, 2, 0), 1);
        Check.same("8: facing 0 from 1, the own arrow", behind.on(3, 0, 0), 2);
    }

    /** The least that CROSS and turns can differ by. */
    private static void nearOnes() {
        BurntOak oak = new BurntOak();
        int[][] places = {{10, 10}, {11, 10}, {11, 11}, {12, 10}, {12, 11}, {12, 9}};
        for (int[] p : places) {
            oak.place(p[0], p[1]);
        }
        oak.way(0, 1, 0, 1, 0, 200);
        oak.way(1, 2, 0, 1, 0, 200);
        oak.way(1, 3, 0, 1, 0, 200);
        Check.same("8: straight, behind one across", oak.on(0, 0, -1), 1);
        Check.same("8: straight", oak.on(0, 0, 0), 8);
        oak.way(1, 4, 0, 1, 50, 50);
        Check.same("7: CROSS is 1", oak.out(0, 0, 50), 2);
        oak.way(1, 5, 0, 1, 60, 60);
        Check.same("7: CROSS is -1", oak.out(0, 1, 60), 1);
        Check.same("7: CROSS is 0", oak.out(0, 2, 60), 1);
    }

    private static void onAndOutByYears() {
        BurntOak oak = new BurntOak();
        oak.place(0, 0);
        oak.place(5, 0);
        oak.place(9, 0);
        oak.way(0, 1, 0, 1, 0, 10);
        oak.way(1, 2, 0, 1, 5, 20);
        oak.way(0, 1, 0, 1, 11, 200);
        Check.same("8: ahead of its years", oak.on(0, 4, -1), 0);
        Check.same("8: in its years", oak.on(0, 5, 0), 4);
        Check.same("8: the own way may be gone", oak.on(0, 15, -1), 1);
        Check.same("8: the new way is not the arrow back", oak.out(0, 2, 15), 2);
        Check.same("8: but by ON one doesn't turn round", oak.on(0, 15, 0), 4);
        Check.same("8: if nothing else is there, one does", oak.on(0, 21, 0), 10);
        Check.same("7: a state of a way to come", oak.out(9, 2, 0), 1);
        Check.same("7: its own way is not there", oak.on(9, 0, 0), 0);
    }
}
