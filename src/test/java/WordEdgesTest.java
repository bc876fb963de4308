import java.util.StringJoiner;

/** Boundary cases of what the terms say of words: where each leads, and where no more (promise 18). */
public final class WordEdgesTest {
    private static final String[] NAMES = {"oak", "farm", "bridge", "school", "pond", "church", "inn", "gate", "stone", "mill", "well", "cross"};
    /** Of the comb: its ways 0 to 19 lie in a line, way 19 + n goes to the left from place n. */
    private static final int TEETH = 19;

    private WordEdgesTest() {
    }

    public static void main(String[] args) {
        onAsOftenAsPatience();
        onToTheEndOfTheWay();
        untilWithinPatience();
        untilTheFirst();
        untilNotWhereOneIs();
        pastBeyondPatience();
        pastTheEndOfTheWay();
        farFromHalfToTwice();
        farWithinPatience();
        eachNameIsItsKind();
        seeAsFarAsTall();
        overOneToThree();
        backIfOneHasCome();
        backIfTheWayIsThere();
        sidesWithNoWays();
        sideWithSeveralWays();
        theNthWithinPatience();
        theNthOfPaths();
        pathsBesideRoads();
        theNthWhereItDoesNotStand();
        notWhereOneIs();
        leftIsRightForSome();
        fourWords();
        eachWordOfEachSaying();
        inAllStatesAtOnce();
        comeTogetherAsOne();
        goneRound();
        inTheYearsOfTheWays();
        Check.finish(WordEdgesTest.class);
    }

    private static Edges.World line(int places, int length, int patience) {
        return () -> {
            BurntOak oak = Edges.line(places, length);
            Edges.walker(oak, patience);
            return oak;
        };
    }

    /** A line of 24 places, marks of a kind at some of them. */
    private static Edges.World marked(int patience, int kind, int... places) {
        return () -> {
            BurntOak oak = line(24, 1, patience).make();
            for (int place : places) {
                oak.mark(place, kind, false, 0, 200);
            }
            return oak;
        };
    }

    private static void leads(String what, Edges.World world, String text, String due) {
        Check.same("18: " + what + ", '" + text + "'", Edges.led(world, text, 0), due);
    }

    private static void onAsOftenAsPatience() {
        for (int patience = 1; patience <= 20; patience++) {
            for (int n = 1; n <= 20; n++) {
                leads("patience " + patience, line(24, 1, patience), "on " + n + ";", n <= patience ? "" + Edges.come(n) : "");
            }
        }
    }

    private static void onToTheEndOfTheWay() {
        leads("to the last place", line(21, 1, 20), "on 20;", "" + Edges.come(20));
        leads("beyond the last place", line(20, 1, 20), "on 20;", "");
        leads("to the last place at once", line(2, 1, 20), "on 1;", "0");
        leads("beyond it at once", line(2, 1, 20), "on 2;", "");
    }

    private static void untilWithinPatience() {
        for (int patience : new int[] {1, 2, 19, 20}) {
            for (int place = 1; place <= 23; place++) {
                String due = place <= patience ? "" + Edges.come(place) : "";
                leads("patience " + patience, marked(patience, 9, place), "on until mill;", due);
            }
        }
    }

    private static void untilTheFirst() {
        leads("two one behind the other", marked(20, 9, 4, 5), "on until mill;", "" + Edges.come(4));
        leads("then the next", marked(20, 9, 4, 5), "on until mill;on until mill;", "" + Edges.come(5));
        leads("then none", marked(20, 9, 4, 5), "on until mill;on until mill;on until mill;", "");
        leads("nowhere", marked(20, 9), "on until mill;", "");
        leads("two at one place", marked(20, 9, 6, 6), "on until mill;", "" + Edges.come(6));
    }

    private static void untilNotWhereOneIs() {
        leads("where one is", marked(20, 9, 0), "on until mill;", "");
        leads("where one is, and farther on", marked(20, 9, 0, 1), "on until mill;", "0");
        leads("past where one is", marked(20, 9, 0), "past mill;", "");
    }

    private static void pastBeyondPatience() {
        for (int patience : new int[] {1, 2, 19, 20}) {
            for (int place = 1; place <= 22; place++) {
                String due = place <= patience ? "" + Edges.come(place + 1) : "";
                leads("patience " + patience, marked(patience, 9, place), "past mill;", due);
            }
        }
        leads("only once more, though it stands there, too", marked(20, 9, 4, 5), "past mill;", "" + Edges.come(5));
    }

    private static void pastTheEndOfTheWay() {
        leads("at the last place", marked(20, 9, 20), "on 3;past mill;", "" + Edges.come(21));
        leads("behind it nothing is", marked(20, 9, 23), "on 3;past mill;", "");
        leads("but till there one comes", marked(20, 9, 23), "on 3;on until mill;", "" + Edges.come(23));
    }

    private static void farFromHalfToTwice() {
        for (int length : new int[] {1, 2, 3, 5, 40, 41, 99}) {
            for (int n = 1; n <= 20; n++) {
                StringJoiner due = new StringJoiner(" ");
                for (int times = 1; times <= 20; times++) {
                    boolean fits = 2 * times * length >= n && times * length <= 2 * n;
                    if (fits) {
                        due.add("" + Edges.come(times));
                    }
                }
                leads("lengths " + length, line(24, length, 20), "far " + n + ";", due.toString());
            }
        }
    }

    private static void farWithinPatience() {
        leads("patience 1", line(24, 1, 1), "far 2;", "0");
        leads("patience 1, too far", line(24, 1, 1), "far 3;", "");
        leads("patience 3", line(24, 1, 3), "far 5;", "8");
        leads("patience 20", line(24, 1, 20), "far 20;", "36 40 44 48 52 56 60 64 68 72 76");
        leads("not beyond the way's end", line(12, 1, 20), "far 20;", "36 40");
    }

    private static void eachNameIsItsKind() {
        Edges.World all = () -> {
            BurntOak oak = line(24, 1, 20).make();
            for (int kind = 0; kind < 12; kind++) {
                oak.mark(kind + 1, kind, false, 0, 200);
            }
            return oak;
        };
        for (int name = 0; name < 12; name++) {
            int there = Edges.come(name + 1);
            leads("name " + name, all, "on until " + NAMES[name] + ";", "" + there);
            leads("name " + name, all, "past " + NAMES[name] + ";", "" + (there + 4));
            leads("name " + name, all, "on 1 or far 12;see " + NAMES[name] + ";", name >= 5 || name == 0 ? "" + there : "");
            leads("name " + name, all, "over " + NAMES[name] + ";", name < 3 ? "1" : "");
        }
    }

    private static void seeAsFarAsTall() {
        Edges.World tall = () -> {
            BurntOak oak = line(6, 1, 20).make();
            oak.mark(3, 2, true, 0, 200);
            return oak;
        };
        leads("from all places", tall, "loose or far 4 or on 1 or on 5;see bridge;", "4 8 12");
        leads("at the place itself", marked(20, 2, 3), "loose or far 4 or on 1 or on 5;see bridge;", "8");
        leads("where it stays, facing on", tall, "on 2;see bridge;see bridge;", "4");
        Check.same("18: see, not come", Edges.led(tall, "see bridge;", 0, 9, 9), "9");
    }

    private static void overOneToThree() {
        for (int patience : new int[] {1, 2, 20}) {
            for (int place = 0; place <= 6; place++) {
                leads("patience " + patience, marked(patience, 9, place), "over mill;", place >= 1 && place <= 3 ? "1" : "");
            }
        }
        leads("it may stand nearer and farther", marked(1, 9, 0, 4, 3), "over mill;", "1");
        leads("behind one", marked(20, 9, 1), "on 2;over mill;", "");
    }

    private static void backIfOneHasCome() {
        leads("not come", line(3, 1, 1), "back;", "");
        leads("come", line(3, 1, 1), "on 1;back;", "2");
        leads("and back again", line(3, 1, 1), "on 1;back;back;", "0");
        leads("loose doesn't come", line(3, 1, 1), "loose;back;", "");
    }

    private static void backIfTheWayIsThere() {
        Edges.World gone = () -> {
            BurntOak oak = line(3, 1, 1).make();
            oak.ends(true, 0, 100);
            return oak;
        };
        Check.same("18: back in its last year", Edges.led(gone, "back;", 0, 0, 100), "2");
        Check.same("18: back behind it", Edges.led(gone, "back;", 0, 0, 101), "");
        Edges.World again = () -> {
            BurntOak oak = gone.make();
            oak.way(0, 1, 0, 1, 101, 200);
            return oak;
        };
        Check.same("18: another way of the same places is not it", Edges.led(again, "back;", 0, 0, 101), "");
        Check.same("18: but a way out", Edges.led(again, "on 1;", 0, 0, 101), "4");
    }

    private static void sidesWithNoWays() {
        leads("only straight on", line(3, 1, 20), "left or right;", "");
        leads("nor farther on", line(3, 1, 20), "1 left or 1 right;", "");
        leads("at the end", line(3, 1, 20), "on 2;left or right or on 1 or 1 left;", "");
    }

    /** Come to place 1 from the west: roads 1 and 2 to the left, a path 3 to the left, road 4 on, lane 5 to the right. */
    private static BurntOak manyWays() {
        BurntOak oak = new BurntOak();
        int[][] places = {{40, 50}, {50, 50}, {50, 60}, {45, 60}, {60, 60}, {60, 50}, {50, 40}};
        for (int[] p : places) {
            oak.place(p[0], p[1]);
        }
        int[] kinds = {0, 0, 0, 2, 0, 1};
        oak.way(0, 1, kinds[0], 1, 0, 200);
        for (int n = 2; n <= 6; n++) {
            oak.way(1, n, kinds[n - 1], 1, 0, 200);
        }
        oak.tongue();
        oak.walker(0, 4095, false, true, 20);
        oak.walker(0, 4095, false, false, 20);
        oak.walker(0, 4095, true, true, 20);
        oak.walker(0, 4095, true, false, 20);
        return oak;
    }

    private static void sideWithSeveralWays() {
        String[][] due = {{"left;", "4 8 12", "20"}, {"right;", "20", "4 8 12"}};
        for (String[] d : due) {
            for (int walker = 0; walker < 4; walker++) {
                String what = "18: come to it, walker " + walker + ", " + d[0];
                Check.same(what, Edges.led(WordEdgesTest::manyWays, d[0], walker, 0, 9), walker < 2 ? d[1] : d[2]);
            }
        }
    }

    private static void pathsBesideRoads() {
        String[][] due = {{"1 left;", "4 8 12", "4 8", "20", "20"}, {"1 right;", "20", "20", "4 8 12", "4 8"}, {"2 left;", "", "", "", ""}};
        for (String[] d : due) {
            for (int walker = 0; walker < 4; walker++) {
                String what = "18: ahead of it, walker " + walker + ", " + d[0];
                Check.same(what, Edges.led(WordEdgesTest::manyWays, d[0], walker), d[walker + 1]);
            }
        }
    }

    /** A line of places 0 to 20, from each but the first a way to the left, of these kinds in turn. */
    private static Edges.World comb(int patience, boolean paths, int... kinds) {
        return () -> {
            BurntOak oak = new BurntOak();
            for (int n = 0; n <= 20; n++) {
                oak.place(3 * n, 50);
            }
            for (int n = 1; n <= 19; n++) {
                oak.place(3 * n, 60);
            }
            for (int n = 0; n < 20; n++) {
                oak.way(n, n + 1, 0, 1, 0, 200);
            }
            for (int n = 1; n <= 20; n++) {
                // For the last there is no place more: it goes half back, to the end of the one ahead.
                oak.way(n, 20 + Math.min(n, 19), kinds[(n - 1) % kinds.length], 1, 0, 200);
            }
            oak.tongue();
            oak.walker(0, 4095, false, paths, patience);
            oak.walker(0, 4095, true, paths, patience);
            return oak;
        };
    }

    private static String tooth(int place) {
        return "" + 4 * (TEETH + place);
    }

    private static void theNthWithinPatience() {
        for (int patience : new int[] {1, 2, 10, 19, 20}) {
            for (int n = 1; n <= 20; n++) {
                leads("comb, patience " + patience, comb(patience, true, 0), n + " left;", n <= patience ? tooth(n) : "");
                leads("comb, patience " + patience, comb(patience, true, 0), n + " right;", "");
            }
        }
        leads("comb, where one is doesn't count", comb(20, true, 0), "on 1;1 left;", tooth(2));
    }

    private static void theNthOfPaths() {
        for (int n = 1; n <= 20; n++) {
            leads("comb of paths, which count", comb(20, true, 2), n + " left;", tooth(n));
            leads("comb of paths, which don't", comb(20, false, 2), n + " left;", "");
            leads("comb of lanes", comb(20, false, 1), n + " left;", tooth(n));
            leads("every other is a path", comb(20, false, 2, 0), n + " left;", n <= 10 ? tooth(2 * n) : "");
            leads("every third is a lane", comb(18, false, 2, 2, 1), n + " left;", n <= 6 ? tooth(3 * n) : "");
        }
    }

    /** The comb, with a pond at every third place. */
    private static Edges.World ponds(boolean paths, int... kinds) {
        return () -> {
            BurntOak oak = comb(20, paths, kinds).make();
            for (int n = 3; n <= 20; n += 3) {
                oak.mark(n, 4, false, 0, 200);
            }
            return oak;
        };
    }

    private static void theNthWhereItDoesNotStand() {
        // 1, 2, 4, 5, 7, 8 .. 19, 20
        for (int n = 1; n <= 20; n++) {
            int place = n + (n - 1) / 2;
            leads("comb with ponds", ponds(true, 0), n + " left not pond;", place <= 20 ? tooth(place) : "");
            leads("comb with ponds, not inn", ponds(true, 0), n + " left not inn;", tooth(n));
            leads("comb with ponds", ponds(true, 0), n + " left;", tooth(n));
        }
        // Roads at 2, 4, 6 .., of these without pond 2, 4, 8, 10, 14, 16, 20.
        int[] due = {2, 4, 8, 10, 14, 16, 20};
        for (int n = 1; n <= 8; n++) {
            leads("comb of paths and roads with ponds", ponds(false, 2, 0), n + " left not pond;", n <= 7 ? tooth(due[n - 1]) : "");
        }
    }

    private static void notWhereOneIs() {
        Edges.World here = () -> {
            BurntOak oak = comb(20, true, 0).make();
            oak.mark(0, 4, true, 0, 200);
            return oak;
        };
        leads("where one is it doesn't matter, nor that it is seen", here, "1 left not pond;", tooth(1));
    }

    private static void leftIsRightForSome() {
        for (int n = 1; n <= 20; n++) {
            Check.same("18: his right", Edges.led(comb(20, true, 0), n + " right;", 1), tooth(n));
            Check.same("18: his left", Edges.led(comb(20, true, 0), n + " left;", 1), "");
        }
        Check.same("18: his right at once", Edges.led(comb(20, true, 0), "right;", 1, 0, 9), tooth(1));
        Check.same("18: his left at once", Edges.led(comb(20, true, 0), "left;", 1, 0, 9), "");
    }

    private static void fourWords() {
        leads("four that lead to four", line(24, 1, 20), "on 1 or on 20 or on 5 or loose;", "0 1 16 76");
        leads("the fourth alone leads", line(24, 1, 3), "on 4 or back or left or on 3;", "8");
        leads("the first alone leads", line(24, 1, 3), "on 3 or back or left or on 4;", "8");
        leads("four that lead to one", line(24, 1, 3), "on 1 or on until mill or on 01 or on 1;", "0");
        leads("four that lead nowhere", line(24, 1, 3), "on 4 or back or left or right;", "");
    }

    /** The only word that leads on is each in turn, to the fourth of the tenth saying. */
    private static void eachWordOfEachSaying() {
        for (int saying = 0; saying < 10; saying++) {
            for (int word = 0; word < 4; word++) {
                leads("word " + word + " of saying " + saying, line(24, 1, 3), Edges.oneWord(saying, word, "on 1"), "0");
            }
        }
    }

    /**
     * Places all of whose ways lie in closed lines: 5 from south to north and 4 from west to east cross, both ends of each are
     * joined; in two of these a place lies between. So ON leads from each state to which one can come to another one.
     */
    private static BurntOak crossingLines() {
        BurntOak oak = new BurntOak();
        for (int n = 0; n < 42; n++) {
            int x = n % 7;
            int y = n / 7;
            if ((x > 0 && x < 6) || (y > 0 && y < 5)) {
                oak.place(10 * x, 10 * y);
            }
        }
        int between = oak.place(70, 12);
        oak.place(12, 70);
        for (int line = 0; line < 4; line++) {
            int west = 5 + 7 * line;
            closedLine(oak, line == 0 ? between : BurntOak.NONE, west, west + 1, west + 2, west + 3, west + 4, west + 5, west + 6);
        }
        for (int line = 0; line < 5; line++) {
            closedLine(oak, line == 0 ? between + 1 : BurntOak.NONE, line, line + 6, line + 13, line + 20, line + 27, line + 33);
        }
        oak.tongue();
        Edges.walker(oak, 20);
        return oak;
    }

    private static void closedLine(BurntOak oak, int between, int... places) {
        int last = places.length - 1;
        for (int n = 0; n < last; n++) {
            oak.way(places[n], places[n + 1], 0, 1, 0, 200);
        }
        if (between == BurntOak.NONE) {
            oak.way(places[last], places[0], 0, 1, 0, 200);
        } else {
            oak.way(places[last], between, 0, 1, 0, 200);
            oak.way(between, places[0], 0, 1, 0, 200);
        }
    }

    private static void inAllStatesAtOnce() {
        BurntOak oak = crossingLines();
        Check.same("3: as many ways as there can be", oak.count(1), 60);
        int telling = Town.tell(oak, "left or right or far2or loose;".repeat(6) + "on1;", 0, 0);
        StringJoiner all = new StringJoiner(" ");
        for (int state = 0; state < 240; state += 2) {
            all.add("" + state);
        }
        Check.same("18: in all states to which one can come", Town.states(oak, telling, 0, 1, 9), all.toString());
        Check.same("20: at all places", oak.end(telling, 0, 1, 9, -1), 40);
        int parts = 0;
        for (int place = 0; place < 40; place++) {
            parts += oak.odds(telling, 0, 1, 9, place);
        }
        Check.same("22: none is lost", parts, 1000000);
    }

    /** Two ways fork and come together: of as many ONs, but of unlike lengths and places counted. */
    private static Edges.World fork(int patience) {
        return () -> {
            BurntOak oak = new BurntOak();
            int[][] places = {{0, 50}, {10, 50}, {20, 60}, {20, 40}, {30, 50}, {40, 50}, {10, 65}, {40, 60}};
            for (int[] p : places) {
                oak.place(p[0], p[1]);
            }
            int[][] ways = {{0, 1, 1}, {1, 2, 2}, {1, 3, 4}, {2, 4, 2}, {3, 4, 4}, {4, 5, 1}, {2, 6, 1}, {5, 7, 1}};
            for (int[] w : ways) {
                oak.way(w[0], w[1], 0, w[2], 0, 200);
            }
            oak.mark(2, 0, false, 0, 200);
            oak.tongue();
            Edges.walker(oak, patience);
            return oak;
        };
    }

    private static void comeTogetherAsOne() {
        leads("it forks", fork(20), "on 2;", "4 8");
        leads("and comes together, by two ways", fork(20), "on 3;", "12 16");
        leads("then it is one", fork(20), "on 4;", "20");
        // The oak stops one way; the other one goes on, and on to nothing.
        leads("one stops", fork(20), "on until oak;", "4");
        // Lengths 1, 3, 5, 6, 7 to the left, 1, 5, 9, 10, 11 to the right.
        leads("lengths counted on each", fork(20), "far 5;", "4 8 12 16 20 28");
        leads("lengths counted on the left alone", fork(20), "far 3;", "4 8 12 20");
        leads("lengths counted on the right alone", fork(20), "far 16;", "16 20 28");
        leads("the second on each", fork(20), "2 left;", "16 24");
        leads("the third on each", fork(20), "3 left;", "14 20");
        leads("the fourth when it is one", fork(20), "4 left;", "28");
        leads("just within patience", fork(4), "4 left;", "28");
        leads("not within patience", fork(3), "4 left;", "");
        leads("no fifth", fork(20), "5 left;", "");
    }

    /** A square: one who goes on comes round and round. */
    private static Edges.World square(int patience) {
        return () -> {
            BurntOak oak = new BurntOak();
            int[][] places = {{10, 10}, {20, 10}, {20, 20}, {10, 20}, {30, 10}};
            for (int[] p : places) {
                oak.place(p[0], p[1]);
            }
            for (int n = 0; n < 4; n++) {
                oak.way(n, (n + 1) % 4, 0, 1, 0, 200);
            }
            oak.mark(0, 0, false, 0, 200);
            oak.tongue();
            Edges.walker(oak, patience);
            return oak;
        };
    }

    private static void goneRound() {
        leads("five times round", square(20), "on 20;", "12");
        leads("once round", square(20), "on until oak;", "12");
        leads("once round, just so", square(4), "on until oak;", "12");
        leads("not quite round", square(3), "on until oak;", "");
        leads("round and on", square(4), "past oak;", "0");
        leads("at each corner, again and again", square(20), "20 left;", "0");
        leads("at the fourth", square(4), "4 left;", "0");
        leads("not at the fifth", square(4), "5 left;", "");
        leads("at the fifth", square(5), "5 left;", "4");
    }

    private static void inTheYearsOfTheWays() {
        Edges.World years = () -> {
            BurntOak oak = line(4, 1, 20).make();
            oak.ends(true, 2, 100);
            oak.mark(2, 0, false, 50, 120);
            return oak;
        };
        String[][] due = {{"on 3;", "99", "8"}, {"on 3;", "100", "8"}, {"on 3;", "101", ""}, {"on until oak;", "49", ""},
            {"on until oak;", "50", "4"}, {"on until oak;", "120", "4"}, {"on until oak;", "121", ""}, {"past oak;", "100", "8"},
            {"past oak;", "101", ""}, {"over oak;", "0", ""}, {"over oak;", "120", "1"}, {"on 2;see oak;", "50", "4"},
            {"on 2;see oak;", "200", ""}};
        for (String[] d : due) {
            Check.same("18: '" + d[0] + "' in " + d[1], Edges.led(years, d[0], 0, Edges.START, Integer.parseInt(d[1])), d[2]);
        }
    }
}
