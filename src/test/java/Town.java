/**
 * A town for tests. A road goes east from place 0 to place 5, way n from place n to n + 1; beside it
 *
 * <pre>
 *            6        7                 10
 *         path 5    lane 6            road 9       (north is left of one who goes east)
 *   0 ---- 1 ------- 2 ------ 3 ------- 4 ------ 5
 *                  lane 7   path 8    road 10
 *                    8        9        11
 * </pre>
 *
 * Lengths of ways 0 to 4: 3, 4, 2, 5, 1. Marks: 0 oak at 2, 1 oak at 4, 2 tall pond at 10, 3 tall church at 5,
 * 4 inn at 3 in the years 50 to 100. Walkers: 0 plain; 1 takes left as right; 2 doesn't count paths; 3 has
 * patience 2; 4 notices no oaks; 5 has a tongue in which a farm is an oak, too.
 */
final class Town {
    /** At place 0, facing east. */
    static final int EAST = 1;

    final BurntOak oak = new BurntOak();

    Town() {
        this(0);
    }

    /** With so many ways elsewhere told first: all ways of the town have numbers so much higher. */
    Town(int elsewhere) {
        int[][] places = {{10, 50}, {20, 50}, {30, 50}, {40, 50}, {50, 50}, {60, 50}, {20, 60}, {30, 60}, {30, 40},
            {40, 40}, {50, 60}, {50, 40}};
        for (int[] p : places) {
            oak.place(p[0], p[1]);
        }
        for (int n = 0; n < 28 && elsewhere > 0; n++) {
            oak.place(n, 0);
        }
        for (int n = 0; n < elsewhere; n++) {
            oak.way(12 + n % 28, 12 + (n + 1 + n / 28) % 28, n % 3, 1 + n, 0, 200);
        }
        int[][] ways = {{0, 1, 0, 3}, {1, 2, 0, 4}, {2, 3, 0, 2}, {3, 4, 0, 5}, {4, 5, 0, 1}, {1, 6, 2, 2}, {2, 7, 1, 2},
            {2, 8, 1, 2}, {3, 9, 2, 2}, {4, 10, 0, 2}, {4, 11, 0, 2}};
        for (int[] w : ways) {
            oak.way(w[0], w[1], w[2], w[3], 0, 200);
        }
        oak.mark(2, 0, false, 0, 200);
        oak.mark(4, 0, false, 0, 200);
        oak.mark(10, 4, true, 0, 200);
        oak.mark(5, 5, true, 0, 200);
        oak.mark(3, 6, false, 50, 100);
        oak.tongue();
        oak.tongue();
        oak.means(1, 1, 3);
        oak.walker(0, 4095, false, true, 10);
        oak.walker(0, 4095, true, true, 10);
        oak.walker(0, 4095, false, false, 10);
        oak.walker(0, 4095, false, true, 2);
        oak.walker(0, 4094, false, true, 10);
        oak.walker(1, 4095, false, true, 10);
    }

    static int feed(BurntOak oak, String text) {
        int held = oak.count(7);
        for (int at = 0; at < text.length(); at += 20) {
            int[] five = new int[5];
            for (int n = 0; n < 20; n++) {
                int sign = at + n < text.length() ? text.charAt(at + n) : ' ';
                five[n / 4] = five[n / 4] << 8 | sign;
            }
            held = oak.feed(five[0], five[1], five[2], five[3], five[4]);
        }
        return held;
    }

    static int tell(BurntOak oak, String text, int goal, int teller) {
        feed(oak, text);
        return oak.telling(text.length(), goal, teller);
    }

    int tell(String text, int goal) {
        return tell(oak, text, goal, 0);
    }

    /** The states to which a text leads, told anew in a town of its own: "0 4 8"; "" for none. */
    static String led(String text, int walker, int state, int year) {
        return led(text, walker, state, year, 0);
    }

    /** So, with so many ways told first; states are still numbered as if there were none. */
    static String led(String text, int walker, int state, int year, int elsewhere) {
        Town town = new Town(elsewhere);
        int telling = town.tell(text, 0);
        if (telling < 0) {
            return "fault " + telling;
        }
        StringBuilder all = new StringBuilder();
        for (String s : states(town.oak, telling, walker, state + 4 * elsewhere, year).split(" ")) {
            all.append(all.length() == 0 ? "" : " ").append(s.isEmpty() ? "" : Integer.parseInt(s) - 4 * elsewhere);
        }
        return all.toString();
    }

    static String states(BurntOak oak, int telling, int walker, int state, int year) {
        int k = oak.sayings(telling);
        StringBuilder all = new StringBuilder();
        int many = oak.leads(telling, walker, state, year, k, -1);
        for (int i = 0; i < many; i++) {
            all.append(i == 0 ? "" : " ").append(oak.leads(telling, walker, state, year, k, i));
        }
        Check.same("the state behind the last", oak.leads(telling, walker, state, year, k, many), -1);
        return all.toString();
    }

    /** All that can be asked without changing anything (but for what lies on trays). */
    static String all(BurntOak oak) {
        StringBuilder all = new StringBuilder();
        for (int what = 0; what < 8; what++) {
            all.append(oak.count(what)).append(' ');
        }
        all.append(oak.fault(0)).append(' ').append(oak.fault(1)).append(' ').append(oak.teller());
        int[] years = {0, 49, 50, 75, 100, 101, 200};
        // Not all states of a large world: an odd step meets all sorts of them.
        int step = Math.max(3, 4 * oak.count(1) / 15 | 1);
        for (int year : years) {
            for (int state = 0; state < 4 * oak.count(1); state++) {
                all.append('\n').append(oak.state(state, 0));
                all.append(oak.out(state, 0, year)).append(oak.out(state, 1, year)).append(oak.out(state, 2, year));
                all.append(oak.on(state, year, -1)).append(' ').append(oak.on(state, year, 0));
            }
            for (int walker = 0; walker < oak.count(4); walker++) {
                for (int name = 0; name < 12; name++) {
                    for (int place = 0; place < oak.count(0); place++) {
                        all.append(oak.stands(walker, name, place, year, false) ? '1' : '0');
                        all.append(oak.stands(walker, name, place, year, true) ? '1' : '0');
                    }
                }
            }
            for (int mark = 0; mark < oak.count(2); mark++) {
                all.append(' ').append(oak.worth(mark, (1 << oak.count(4)) - 1, year, 0)).append(oak.worth(mark, 0, year, 1));
            }
            for (int telling = 0; telling < oak.count(5) && oak.count(1) > 0; telling++) {
                all.append('\n').append(oak.sayings(telling));
                for (int walker = 0; walker < oak.count(4); walker++) {
                    for (int state = 0; state < 4 * oak.count(1); state += step) {
                        all.append(' ').append(oak.end(telling, walker, state, year, -1)).append(oak.end(telling, walker, state, year, 0));
                        all.append(oak.right(telling, walker, state, year)).append(oak.holds(telling, walker, state, year));
                    }
                }
            }
        }
        for (int teller = 0; teller < 10; teller++) {
            all.append(oak.told(teller, true)).append(oak.told(teller, false)).append(' ');
        }
        for (int walker = 0; walker < oak.count(4); walker++) {
            for (int name = 0; name < 12; name++) {
                all.append(oak.learned(walker, name)).append(' ');
            }
        }
        return all.toString();
    }
}
