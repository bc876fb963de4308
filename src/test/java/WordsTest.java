/** Promise 18: where each word leads, in the town and in small grounds of their own. */
public final class WordsTest {
    private WordsTest() {
    }

    private static void leads(String text, int walker, int state, int year, String due) {
        String what = "18: '" + text + "' for " + walker + " from " + state + " in " + year;
        int[] elsewhere = {0, 27, 30, 31, 32, 49};
        for (int ways : elsewhere) {
            Check.same(what + " behind " + ways + " ways", Town.led(text, walker, state, year, ways), due);
        }
    }

    public static void main(String[] args) {
        onTimes();
        until();
        past();
        far();
        see();
        over();
        staysAndBack();
        sides();
        nthSides();
        notNames();
        severalWords();
        comesTogether();
        farAlongLongWays();
        edges();
        Check.finish(WordsTest.class);
    }

    private static void onTimes() {
        leads("on 1;", 0, Town.EAST, 9, "0");
        leads("on 2;", 0, Town.EAST, 9, "4");
        leads("on 5;", 0, Town.EAST, 9, "16");
        leads("on 6;", 0, Town.EAST, 9, "");
        leads("on 2;", 3, Town.EAST, 9, "4");
        leads("on 3;", 3, Town.EAST, 9, "");
        leads("on 2;on 2;", 3, Town.EAST, 9, "12");
        leads("on 1;", 0, 22, 9, "2 4");
        leads("on 2;", 0, 22, 9, "8");
    }

    private static void until() {
        leads("on until oak;", 0, Town.EAST, 9, "4");
        leads("on until oak;", 0, 4, 9, "12");
        leads("on until oak;", 3, Town.EAST, 9, "4");
        leads("on until church;", 3, 8, 9, "16");
        leads("on until church;", 3, 4, 9, "");
        leads("on until church;", 0, Town.EAST, 9, "16");
        leads("on until oak;", 4, Town.EAST, 9, "");
        leads("on until farm;", 0, Town.EAST, 9, "");
        leads("on until farm;", 5, Town.EAST, 9, "4");
        leads("on until inn;", 0, Town.EAST, 49, "");
        leads("on until inn;", 0, Town.EAST, 50, "8");
        leads("on until inn;", 0, Town.EAST, 100, "8");
        leads("on until inn;", 0, Town.EAST, 101, "");
        leads("on until oak;", 0, 22, 9, "4");
    }

    private static void past() {
        leads("past oak;", 0, Town.EAST, 9, "8");
        leads("past oak;", 3, Town.EAST, 9, "8");
        leads("past oak;", 3, 4, 9, "16");
        leads("past church;", 0, Town.EAST, 9, "");
        leads("past pond;", 0, Town.EAST, 9, "");
    }

    private static void far() {
        leads("far 1;", 0, Town.EAST, 9, "");
        leads("far 2;", 0, Town.EAST, 9, "0");
        leads("far 3;", 0, Town.EAST, 9, "0");
        leads("far 5;", 0, Town.EAST, 9, "0 4 8");
        leads("far 6;", 0, Town.EAST, 9, "0 4 8");
        leads("far 7;", 0, Town.EAST, 9, "4 8 12");
        leads("far 8;", 0, Town.EAST, 9, "4 8 12 16");
        leads("far 14;", 0, Town.EAST, 9, "4 8 12 16");
        leads("far 15;", 0, Town.EAST, 9, "8 12 16");
        leads("far 20;", 0, Town.EAST, 9, "12 16");
        leads("far 8;", 3, Town.EAST, 9, "4");
        leads("far 1;", 0, 12, 9, "16");
        leads("far 2;far 2;", 0, Town.EAST, 9, "4");
    }

    private static void see() {
        leads("see oak;", 0, 4, 9, "4");
        leads("see oak;", 0, Town.EAST, 9, "");
        leads("see oak;", 0, 0, 9, "");
        leads("see oak;", 4, 4, 9, "");
        leads("see pond;", 0, 12, 9, "12");
        leads("see pond;", 0, 8, 9, "");
        leads("see pond;", 0, 36, 9, "36");
        leads("see church;", 0, 15, 9, "15");
    }

    private static void over() {
        leads("over oak;", 0, Town.EAST, 9, "1");
        leads("over church;", 0, Town.EAST, 9, "");
        leads("over church;", 0, 0, 9, "");
        leads("over church;", 0, 4, 9, "4");
        leads("over church;", 3, 4, 9, "4");
        leads("over church;", 0, 16, 9, "");
        leads("over oak;", 4, Town.EAST, 9, "");
        leads("over pond;", 0, 12, 9, "");
        leads("over oak;", 0, 22, 9, "22");
    }

    private static void staysAndBack() {
        leads("loose;", 0, Town.EAST, 9, "1");
        leads("", 0, Town.EAST, 9, "1");
        leads("back;", 0, Town.EAST, 9, "");
        leads("back;", 0, 0, 9, "2");
        leads("back;", 0, 2, 9, "0");
        leads("on 1;back;back;", 0, Town.EAST, 9, "0");
        Town town = new Town();
        town.oak.ends(true, 0, 20);
        int telling = town.tell("back;", 0);
        Check.same("18: back while the way is there", Town.states(town.oak, telling, 0, 0, 20), "2");
        Check.same("18: back when the way is gone", Town.states(town.oak, telling, 0, 0, 21), "");
    }

    private static void sides() {
        leads("left;", 0, 0, 9, "20");
        leads("right;", 0, 0, 9, "");
        leads("left;", 0, 4, 9, "24");
        leads("right;", 0, 4, 9, "28");
        leads("left;", 1, 4, 9, "28");
        leads("right;", 1, 4, 9, "24");
        leads("left;", 2, 0, 9, "20");
        leads("left;", 0, 5, 9, "20");
        leads("left;", 0, Town.EAST, 9, "");
    }

    private static void nthSides() {
        leads("1 left;", 0, Town.EAST, 9, "20");
        leads("1 left;", 2, Town.EAST, 9, "24");
        leads("1 left;", 1, Town.EAST, 9, "28");
        leads("1 right;", 1, Town.EAST, 9, "20");
        leads("2 left;", 0, Town.EAST, 9, "24");
        leads("2 left;", 2, Town.EAST, 9, "36");
        leads("3 left;", 0, Town.EAST, 9, "36");
        leads("4 left;", 0, Town.EAST, 9, "");
        leads("2 right;", 0, Town.EAST, 9, "32");
        leads("2 right;", 2, Town.EAST, 9, "40");
        leads("1 left;", 3, Town.EAST, 9, "20");
        leads("2 left;", 3, Town.EAST, 9, "24");
        leads("3 left;", 3, Town.EAST, 9, "");
        leads("2 right;", 3, Town.EAST, 9, "");
        leads("1 left;", 0, 0, 9, "24");
    }

    private static void notNames() {
        leads("1 left not oak;", 0, Town.EAST, 9, "20");
        leads("2 left not oak;", 0, Town.EAST, 9, "");
        leads("1 right not oak;", 0, Town.EAST, 9, "32");
        leads("1 right not oak;", 2, Town.EAST, 9, "");
        leads("2 left not oak;", 4, Town.EAST, 9, "24");
        leads("2 left not farm;", 0, Town.EAST, 9, "24");
        leads("2 left not farm;", 5, Town.EAST, 9, "");
        leads("2 right not inn;", 0, Town.EAST, 75, "40");
        leads("2 right not inn;", 0, Town.EAST, 9, "32");
        leads("2 right not church;", 0, Town.EAST, 9, "32");
    }

    private static void severalWords() {
        leads("left or right;", 0, 4, 9, "24 28");
        leads("on 1 or on 2 or on 3 or loose;", 0, Town.EAST, 9, "0 1 4 8");
        leads("on 6 or left or on 1;", 0, Town.EAST, 9, "0");
        leads("on until oak;1 left;", 0, Town.EAST, 9, "36");
        leads("loose or on 1;loose or back;", 0, Town.EAST, 9, "0 1 2");
        leads("on 2 or on 3;left or right;", 0, Town.EAST, 9, "24 28 32");
        Town town = new Town();
        int telling = town.tell("on 2;left or right;on 1;loose;", 0);
        int[] due = {1, 1, 2, 0, 0};
        for (int k = 0; k <= 4; k++) {
            Check.same("18: how many behind " + k, town.oak.leads(telling, 0, Town.EAST, 9, k, -1), due[k]);
        }
        Check.same("18: behind none it is where it was", town.oak.leads(telling, 0, Town.EAST, 9, 0, 0), Town.EAST);
        Check.same("18: the second", town.oak.leads(telling, 0, Town.EAST, 9, 2, 1), 28);
        Check.same("18: no third", town.oak.leads(telling, 0, Town.EAST, 9, 2, 2), -1);
        Check.same("18: below NONE", town.oak.leads(telling, 0, Town.EAST, 9, 2, -2), -1);
    }

    /** Two ways of unlike lengths that come together: what was counted on each goes on. */
    private static void comesTogether() {
        BurntOak oak = new BurntOak();
        int[][] places = {{0, 50}, {10, 50}, {20, 60}, {20, 40}, {30, 50}, {40, 50}};
        for (int[] p : places) {
            oak.place(p[0], p[1]);
        }
        // From 1 half left to 2 and half right to 3, from both to 4, then on to 5.
        int[][] ways = {{0, 1, 1}, {1, 2, 1}, {1, 3, 9}, {2, 4, 1}, {3, 4, 9}, {4, 5, 1}};
        for (int[] w : ways) {
            oak.way(w[0], w[1], 0, w[2], 0, 200);
        }
        oak.mark(2, 0, false, 0, 200);
        oak.tongue();
        oak.walker(0, 4095, false, true, 20);
        Check.same("8: it forks", oak.on(0, 0, -1), 2);
        String[][] due = {{"far 2;", "0 4 12 20"}, {"far 20;", "8 16 20"}, {"on until oak;", "4"}, {"on 3;", "12 16"}, {"on 4;", "20"},
            {"1 left;", "4"}, {"2 left;", "16 20"}, {"3 left;", "14"}, {"1 right;", "8"}, {"2 right;", "12 20"}};
        for (String[] d : due) {
            int telling = Town.tell(oak, d[0], 0, 0);
            Check.same("18: '" + d[0] + "' where ways come together", Town.states(oak, telling, 0, 1, 0), d[1]);
        }
    }

    /** LENGTHS are numbers, whatever a shift by 64 and more does. */
    private static void farAlongLongWays() {
        int[] lengths = {40, 41, 63, 64, 65, 74, 84, 99};
        for (int length : lengths) {
            BurntOak oak = new BurntOak();
            oak.place(0, 0);
            oak.place(10, 0);
            oak.place(20, 0);
            oak.way(0, 1, 0, length, 0, 200);
            oak.way(1, 2, 0, 10, 0, 200);
            oak.tongue();
            oak.walker(0, 0, false, false, 20);
            int telling = Town.tell(oak, "far 20;", 0, 0);
            Check.same("18: far 20 along " + length, Town.states(oak, telling, 0, 1, 0), length == 40 ? "0" : "");
        }
    }

    private static void edges() {
        Town town = new Town();
        int telling = town.tell("on 1;left;", 0);
        BurntOak oak = town.oak;
        Check.thrown("18: no telling", Check.NO_SUCH, () -> oak.leads(1, 0, 0, 201, 9, 0));
        Check.thrown("18: no walker", Check.NO_SUCH, () -> oak.leads(telling, 6, 0, 201, 9, 0));
        Check.thrown("18: no state", Check.NO_SUCH, () -> oak.leads(telling, 0, 44, 201, 9, 0));
        Check.thrown("18: year", Check.ARGUMENT, () -> oak.leads(telling, 0, 0, 201, 0, 0));
        Check.thrown("18: k 3", Check.ARGUMENT, () -> oak.leads(telling, 0, 0, 0, 3, 0));
        Check.thrown("18: k -1", Check.ARGUMENT, () -> oak.leads(telling, 0, 0, 0, -1, 0));
    }
}
