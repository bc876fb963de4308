/** Promises 33 to 38. */
public final class TraysTest {
    private TraysTest() {
    }

    public static void main(String[] args) {
        tray();
        write();
        say();
        sayWords();
        images();
        imagesLeaveOut();
        imagesOfEverything();
        imagesOfTwoWorlds();
        imagesOfFullWorlds();
        imagesOfTellings();
        imagesOfRecords();
        count();
        Check.finish(TraysTest.class);
    }

    private static void tray() {
        BurntOak oak = new BurntOak();
        Check.thrown("33: no tray 4", Check.NO_SUCH, () -> oak.tray(4, 4, 13));
        Check.thrown("33: no tray -1", Check.NO_SUCH, () -> oak.tray(-1, 0, 0));
        Check.thrown("33: sort 4", Check.ARGUMENT, () -> oak.tray(0, 4, 0));
        Check.thrown("33: sort -1", Check.ARGUMENT, () -> oak.tray(0, -1, 0));
        Check.thrown("33: 13 numbers", Check.ARGUMENT, () -> oak.tray(0, 0, 13));
        Check.thrown("33: -1 numbers", Check.ARGUMENT, () -> oak.tray(0, 0, -1));
        Check.thrown("33: it is missing still", Check.STATE, () -> oak.write(0, 0, 0));
        oak.tray(3, 3, 12);
        Check.same("33: the twelfth", oak.write(3, 11, 5), 5);
        Check.thrown("33: tray 0 is missing still", Check.STATE, () -> oak.write(0, 0, 0));
        Check.thrown("33: a wrong sort", Check.ARGUMENT, () -> oak.tray(3, 4, 0));
        Check.same("33: changed nothing", oak.write(3, 10, 1L << 40), 1L << 40);
        oak.tray(3, 0, 2);
        Check.thrown("33: it is shorter now", Check.INDEX, () -> oak.write(3, 2, 0));
        oak.tray(3, 0, 0);
        Check.thrown("33: an empty one is not missing", Check.INDEX, () -> oak.write(3, 0, 0));
    }

    private static void write() {
        BurntOak oak = new BurntOak();
        for (int sort = 0; sort < 4; sort++) {
            oak.tray(sort, sort, 3);
        }
        long[][] cut = {{127, 127, 127, 127, 127}, {128, -128, 128, 128, 128}, {-129, 127, -129, -129, -129}, {256, 0, 256, 256, 256},
            {32768, 0, -32768, 32768, 32768}, {1L << 31, 0, 0, -1L << 31, 1L << 31}, {(1L << 32) + 5, 5, 5, 5, (1L << 32) + 5},
            {-1, -1, -1, -1, -1}, {Long.MIN_VALUE, 0, 0, 0, Long.MIN_VALUE}, {Long.MAX_VALUE, -1, -1, -1, Long.MAX_VALUE}};
        for (long[] c : cut) {
            for (int sort = 0; sort < 4; sort++) {
                Check.same("34: " + c[0] + " in sort " + sort, oak.write(sort, 2, c[0]), c[sort + 1]);
            }
        }
        Check.thrown("34: no tray", Check.NO_SUCH, () -> oak.write(4, -1, 0));
        Check.thrown("34: no place 3", Check.INDEX, () -> oak.write(0, 3, 0));
        Check.thrown("34: no place -1", Check.INDEX, () -> oak.write(0, -1, 0));
        BurntOak bare = new BurntOak();
        Check.thrown("34: missing goes ahead of its place", Check.STATE, () -> bare.write(0, 99, 0));
    }

    private static void say() {
        BurntOak oak = new BurntOak();
        oak.place(0, 0);
        Check.thrown("35: no tray", Check.NO_SUCH, () -> oak.say(4, 0, 10));
        Check.thrown("35: no goal, and missing", Check.NO_SUCH, () -> oak.say(0, 1, 10));
        Check.thrown("35: missing", Check.STATE, () -> oak.say(0, 0, 10));
        oak.tray(0, 0, 11);
        Check.thrown("35: more than 10", Check.ARGUMENT, () -> oak.say(0, 0, 0));
        oak.tray(0, 0, 10);
        Check.thrown("35: teller 10", Check.ARGUMENT, () -> oak.say(0, 0, 10));
        Check.thrown("35: teller -1", Check.ARGUMENT, () -> oak.say(0, 0, -1));
        oak.write(0, 9, 31);
        Check.thrown("35: 31 is no word", Check.ARGUMENT, () -> oak.say(0, 0, 0));
        oak.write(0, 9, -1);
        Check.thrown("35: -1 is no word", Check.ARGUMENT, () -> oak.say(0, 0, 0));
        oak.write(0, 9, 30);
        Check.same("35: they changed nothing", oak.count(5), 0);
        Check.same("35: ten words", oak.say(0, 0, 9), 0);
        Check.same("17: ten sayings", oak.sayings(0), 10);
        oak.tray(1, 3, 1);
        oak.write(1, 0, 1L << 32);
        Check.thrown("35: a long one is no word", Check.ARGUMENT, () -> oak.say(1, 0, 0));
        oak.tray(1, 3, 0);
        Check.same("35: no words", oak.say(1, 0, 0), 1);
        Check.same("17: no sayings", oak.sayings(1), 0);
        Town.feed(oak, "!");
        oak.telling(1, 0, 0);
        Town.feed(oak, "left;");
        for (int n = 2; n < 12; n++) {
            Check.same("35: telling " + n, oak.say(0, 0, 0), n);
        }
        Check.same("35: a thirteenth", oak.say(0, 0, 0), -1);
        Check.thrown("35: full, and teller", Check.ARGUMENT, () -> oak.say(0, 0, 10));
        Check.same("35: the tape stays", oak.count(7), 20);
        Check.same("35: the fault stays", oak.fault(0), 1);
    }

    private static void sayWords() {
        for (int word = 0; word <= 30; word++) {
            String text = String.join(" ", Model.listed(word)) + ";";
            for (int walker = 0; walker < 6; walker++) {
                for (int state = 0; state < 44; state += 5) {
                    Town town = new Town();
                    town.oak.tray(2, 1, 1);
                    town.oak.write(2, 0, word);
                    int telling = town.oak.say(2, 0, 0);
                    String what = "35: word " + word + " for " + walker + " from " + state;
                    Check.same(what, Town.states(town.oak, telling, walker, state, 75), Town.led(text, walker, state, 75));
                }
            }
        }
        Town town = new Town();
        town.oak.tray(0, 0, 2);
        town.oak.write(0, 0, 3);
        town.oak.write(0, 1, 27);
        int telling = town.oak.say(0, 10, 4);
        town.oak.write(0, 1, 2);
        Check.same("35: on until oak; 1 left;", Town.states(town.oak, telling, 0, Town.EAST, 9), "36");
        Check.so("35: with its goal", town.oak.right(telling, 0, Town.EAST, 9));
        town.oak.went(0, telling, Town.EAST, 9, 10);
        Check.same("35: and its teller", town.oak.told(4, false), 1);
    }

    private static void images() {
        Town town = new Town();
        BurntOak oak = town.oak;
        Check.thrown("36: no image 3", Check.NO_SUCH, () -> oak.image(3));
        Check.thrown("36: no image -1", Check.NO_SUCH, () -> oak.image(-1));
        Check.thrown("37: no image 3", Check.NO_SUCH, () -> oak.restore(3));
        Check.thrown("37: no image -1", Check.NO_SUCH, () -> oak.restore(-1));
        Check.thrown("37: none was made", Check.STATE, () -> oak.restore(0));
        String first = Town.all(oak);
        oak.image(0);
        Check.thrown("37: none was made there", Check.STATE, () -> oak.restore(1));
        oak.place(1, 1);
        oak.image(1);
        String second = Town.all(oak);
        oak.ends(true, 0, 5);
        oak.restore(0);
        Check.same("37: as in the first", Town.all(oak), first);
        oak.restore(1);
        Check.same("37: as in the second", Town.all(oak), second);
        oak.restore(0);
        oak.restore(0);
        Check.same("37: the first is still there", Town.all(oak), first);
        oak.place(2, 2);
        oak.place(3, 3);
        oak.image(0);
        oak.restore(1);
        oak.restore(0);
        Check.same("36: a new one in its place", oak.count(0), 14);
    }

    private static void imagesLeaveOut() {
        Town town = new Town();
        BurntOak oak = town.oak;
        oak.tray(0, 0, 1);
        oak.image(2);
        Town.tell(oak, "on 0;", 0, 0);
        Town.feed(oak, "left;");
        oak.tray(0, 0, 2);
        oak.write(0, 1, 7);
        oak.restore(2);
        Check.same("37: the tape stays", oak.count(7), 20);
        Check.same("37: the fault stays", oak.fault(0), 3);
        Check.same("37: its place, too", oak.fault(1), 3);
        Check.same("37: trays stay", oak.write(0, 1, 9), 9);
        Check.same("37: the tape can be read", oak.telling(5, 0, 0), 0);
    }

    private static void imagesOfEverything() {
        Town town = new Town();
        BurntOak oak = town.oak;
        int telling = town.tell("on until oak;", 2);
        oak.went(0, telling, Town.EAST, 9, 2);
        String before = Town.all(oak);
        oak.image(1);
        oak.way(0, 6, 0, 1, 0, 200);
        oak.mark(1, 0, true, 0, 200);
        oak.ends(true, 3, 7);
        oak.ends(false, 0, 7);
        oak.means(0, 0, 5);
        oak.walker(oak.tongue(), 0, true, true, 1);
        Town.tell(oak, "left or right;", 1, 7);
        oak.went(0, 1, 0, 9, 2);
        oak.place(0, 0);
        Check.so("36: now all is otherwise", !Town.all(oak).equals(before));
        oak.restore(1);
        Check.same("37: all is as it was", Town.all(oak), before);
        Check.same("37: ways end as they did", oak.ends(true, 3, 7), 200);
        Check.same("37: marks end as they did", oak.ends(false, 0, 7), 200);
        Check.same("37: names mean what they did", oak.means(0, 0, 5), 1);
        Check.same("37: the next way", oak.way(0, 6, 0, 1, 0, 200), 11);
        Check.same("37: the next tongue means", oak.means(oak.tongue(), 3, 0), 8);
        oak.restore(1);
        Check.same("37: and once more", Town.all(oak), before);
    }

    /** Two worlds of like size in which each number is another, told into one object by turns. */
    private static void imagesOfTwoWorlds() {
        BurntOak oak = new BurntOak();
        oak.image(0);
        world(oak, 0);
        String first = Town.all(oak);
        oak.image(1);
        oak.restore(0);
        world(oak, 1);
        String second = Town.all(oak);
        oak.image(2);
        Check.so("36: they differ", !first.equals(second));
        oak.restore(1);
        Check.same("37: the first world", Town.all(oak), first);
        Check.same("37: its place 3 is where it was", oak.way(3, 0, 0, 1, 0, 200), 4);
        Check.same("37: who comes from there to 0 has 1 to the left", oak.out(16, 0, 9), 1);
        Check.same("37: its place 4 is where it was", oak.way(4, 3, 0, 1, 0, 200), 5);
        Check.same("37: who comes from there to 3 has 0 to the left, 1 straight behind", oak.out(20, 0, 9), 1);
        oak.restore(2);
        Check.same("37: the second world", Town.all(oak), second);
        oak.image(0);
        oak.restore(1);
        oak.restore(0);
        Check.same("36: made again over another", Town.all(oak), second);
    }

    private static void world(BurntOak oak, int n) {
        int[][][] places = {{{10, 50}, {20, 50}, {30, 50}, {20, 60}, {20, 40}}, {{10, 50}, {20, 50}, {20, 40}, {12, 44}, {30, 55}}};
        for (int[] p : places[n]) {
            oak.place(p[0], p[1]);
        }
        for (int w = 0; w < 4; w++) {
            oak.way(w == 0 ? 0 : 1, w + 1, n == 0 ? 2 : w % 2, 2 + 3 * n + w, 10 * n, 200 - 10 * n);
        }
        for (int m = 0; m < 3; m++) {
            oak.mark((m + n) % 5, m + 3 * n, n == 0, 5 * n, 150 - 20 * n);
        }
        oak.tongue();
        oak.tongue();
        oak.means(n, 4, 7);
        oak.walker(n, 4095 - n, n == 0, n == 0, 3 + n);
        oak.walker(1 - n, 4095 - 2 * n, n != 0, n != 0, 4 - 2 * n);
        Town.tell(oak, n == 0 ? "far 6;" : "1 left;on 1 or loose;", n, n);
        Town.tell(oak, n == 0 ? "1 right or 1 left;see oak or see pond or loose;" : "on 3 or on 1;", 2 * n, 4 + n);
        oak.went(n, n, 1, 9 + 50 * n, 2 - n);
        oak.went(1 - n, 1, 3 - 2 * n, 20 + n, 1 + n);
    }

    /** Two worlds in which there is no room left, so that the last of each sort is kept and comes back. */
    private static void imagesOfFullWorlds() {
        BurntOak oak = new BurntOak();
        oak.image(0);
        String[] due = new String[2];
        for (int n = 0; n < 2; n++) {
            BurntOak untouched = new BurntOak();
            fullWorld(untouched, n);
            due[n] = Town.all(untouched) + further(untouched);
            oak.restore(0);
            fullWorld(oak, n);
            oak.image(n + 1);
        }
        Check.so("36: they differ", !due[0].equals(due[1]));
        for (int n = 0; n < 2; n++) {
            oak.restore(n + 1);
            Check.same("37: full world " + n, Town.all(oak) + further(oak), due[n]);
        }
    }

    /** Where there are places, where all tellings lead from all states, and what names mean. */
    private static String further(BurntOak oak) {
        StringBuilder all = new StringBuilder();
        for (int at = 0; at < 100 * 100; at++) {
            try {
                all.append(oak.place(at % 100, at / 100));
            } catch (IllegalArgumentException e) {
                all.append("\n").append(at);
            }
        }
        for (int telling = 0; telling < oak.count(5); telling++) {
            for (int state = 0; state < 4 * oak.count(1); state++) {
                all.append('\n').append(oak.sayings(telling));
                for (int walker = 0; walker < oak.count(4); walker++) {
                    all.append(' ').append(Town.states(oak, telling, walker, state, 9)).append(',');
                }
            }
        }
        for (int tongue = 0; tongue < oak.count(3); tongue++) {
            for (int name = 0; name < 12; name++) {
                all.append(' ').append(oak.means(tongue, name, 0));
            }
        }
        return all.toString();
    }

    private static void fullWorld(BurntOak oak, int n) {
        boolean first = n == 0;
        for (int p = 0; p < 40; p++) {
            oak.place(6 * (p % 8) + n * (1 + p % 3), first ? 7 * (p / 8) : 90 - 5 * (p / 8) - p % 2);
        }
        for (int w = 0; w < 60; w++) {
            int a = w < 32 ? w : w - 32 + (w - 32) / 7;
            int b = w < 32 ? a + 8 : a + 1;
            oak.way(first ? a : b, first ? b : a, (w + n) % 3, 1 + w % 9 + n, 8 * n, 200 - 5 * n);
        }
        for (int m = 0; m < 40; m++) {
            oak.mark((m * 11 + n) % 40, (m + n) % 12, m % 2 == n, 3 * n, 200 - 7 * n);
        }
        for (int t = 0; t < 6; t++) {
            oak.tongue();
            oak.means(t, 11 - n, 3 << t + n);
        }
        for (int w = 0; w < 8; w++) {
            oak.walker((w + n) % 6, 4095 - (1 << w + n), w % 2 == n, w % 3 == n, 3 + w + n);
        }
        String[] words = {"1 left", "on 1", "right", "far 3", "2 right", "past oak"};
        for (int t = 0; t < 12; t++) {
            String last = words[(t + n) % 6] + " or left or back or " + words[(t + n + 1) % 6];
            Town.tell(oak, "loose;".repeat(9 - n) + last + ";", t + 13 * n, (t + n) % 10);
        }
        for (int r = 0; r < 30; r++) {
            oak.went((r + n) % 8, (r + n) % 12, 7 * r + n, r + 50 * n, first ? r % 12 : r % 12 + 14);
        }
    }

    private static void imagesOfRecords() {
        imagesOfRecord(0);
        imagesOfRecord(29);
    }

    /** Of one that says what a gate is, behind so many that say nothing. */
    private static void imagesOfRecord(int ahead) {
        Town town = new Town();
        BurntOak oak = town.oak;
        town.tell("on until gate;", 3);
        town.tell("on until gate;on 1;", 3);
        Town.tell(oak, "", 0, 1);
        for (int n = 0; n < ahead; n++) {
            oak.went(0, 2, Town.EAST, 9, 0);
        }
        Check.same("30: it may be anything", oak.learned(0, 7), 4095);
        oak.image(0);
        oak.went(0, 0, Town.EAST, 75, 3);
        Check.same("30: it is the inn", oak.learned(0, 7), 64);
        oak.image(1);
        int[][] others = {{0, 0, Town.EAST, 9, 3}, {1, 0, Town.EAST, 75, 3}, {0, 1, Town.EAST, 75, 3}, {0, 0, 8, 75, 3}, {0, 0, Town.EAST, 75, 4}};
        for (int[] r : others) {
            oak.restore(0);
            oak.went(r[0], r[1], r[2], r[3], r[4]);
            Check.so("30: it is not", oak.learned(0, 7) != 64);
            oak.restore(1);
            Check.same("37: it is the inn again", oak.learned(0, 7), 64);
            Check.same("37: told at the goal", oak.told(0, false), 1);
        }
    }

    private static void imagesOfTellings() {
        Town town = new Town();
        BurntOak oak = town.oak;
        oak.image(0);
        town.tell("left or right or on 1 or loose;left or loose;", 3);
        oak.restore(0);
        oak.tray(0, 0, 1);
        oak.write(0, 0, 1);
        Check.same("35: in the place of one that is no more", oak.say(0, 3, 0), 0);
        Check.same("35: no word of that is left", Town.states(oak, 0, 0, 4, 9), "24");
        oak.restore(0);
        town.tell("left;", 3);
        Check.same("15: no word of that is left", Town.states(oak, 0, 0, 4, 9), "24");
    }

    private static void count() {
        Town town = new Town();
        int telling = town.tell("left;", 0);
        town.oak.went(0, telling, 0, 0, 0);
        town.oak.went(0, telling, 0, 0, 0);
        Town.feed(town.oak, "a");
        int[] due = {12, 11, 5, 2, 6, 1, 2, 20};
        for (int what = 0; what < 8; what++) {
            Check.same("38: count(" + what + ")", town.oak.count(what), due[what]);
        }
        Check.same("38: count(8)", town.oak.count(8), -1);
        Check.same("38: the least", town.oak.count(Integer.MIN_VALUE), -1);
    }
}
