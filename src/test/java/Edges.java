import java.util.HashMap;
import java.util.Map;

/** What the tests of boundary cases share: worlds, and calls that must change nothing. */
final class Edges {
    /** Makes the same world each time. */
    interface World {
        BurntOak make();
    }

    interface On {
        void call(BurntOak oak);
    }

    interface Asked {
        long call(BurntOak oak);
    }

    private static final int PROBED = 13;
    /** Worlds that nobody has touched, by who makes them. */
    private static final Map<World, String> UNTOUCHED = new HashMap<>();

    private Edges() {
    }

    /**
     * The town, and something of everything: 4 tellings (of 2, 3, 1 and 0 sayings), a record, trays 0 (two 0s), 1 (11
     * numbers) and 3 (30 and 27), tray 2 missing, images 0 (the bare town) and 2, a fault, 20 bytes on the tape.
     */
    static BurntOak rich() {
        Town town = new Town();
        BurntOak oak = town.oak;
        oak.image(0);
        town.tell("on until oak;left or right;", 7);
        town.tell("far 6 or 1 left;1 right not inn or loose;back or loose;", 3);
        Town.tell(oak, "2 left or 2 right or past oak;", 2, 9);
        oak.image(2);
        town.tell("", 0);
        oak.went(0, 0, Town.EAST, 9, 7);
        Town.tell(oak, "on 0;", 0, 0);
        Town.feed(oak, "left;right;");
        oak.tray(0, 0, 2);
        oak.tray(1, 3, 11);
        oak.tray(3, 1, 2);
        oak.write(3, 0, 30);
        oak.write(3, 1, 27);
        return oak;
    }

    /** A call that throws, and changes nothing. */
    static void refused(String what, Class<? extends RuntimeException> due, World world, On call) {
        BurntOak oak = world.make();
        Check.thrown(what, due, () -> call.call(oak));
        changedNothing(what, world, oak);
    }

    /** A call that answers, and changes nothing. */
    static void unchanged(String what, long due, World world, Asked call) {
        BurntOak oak = world.make();
        Check.same(what, call.call(oak), due);
        changedNothing(what, world, oak);
    }

    private static void changedNothing(String what, World world, BurntOak oak) {
        String due = UNTOUCHED.computeIfAbsent(world, w -> everything(w.make()));
        Check.same(what + " changes nothing:", everything(oak), due);
    }

    /** All that can be found out, the object being used up by it. */
    static String everything(BurntOak oak) {
        StringBuilder all = new StringBuilder(Town.all(oak));
        tape(oak, all);
        years(oak, all);
        for (int tongue = 0; tongue < oak.count(3); tongue++) {
            for (int name = 0; name < 12; name++) {
                all.append(oak.means(tongue, name, 0)).append(' ');
            }
        }
        for (int i = 0; i < 3; i++) {
            int image = i;
            all.append("\nimage ").append(i).append(answer(() -> {
                oak.restore(image);
                return 0;
            }));
            brief(oak, all);
            // If the tellings were all there can be, an image may have room for what lies on trays.
            for (int tray = 0; tray < 4; tray++) {
                tray(oak, tray, all);
            }
        }
        return all.toString();
    }

    /** Enough of a world to tell it from others. */
    private static void brief(BurntOak oak, StringBuilder all) {
        for (int what = 0; what < 8; what++) {
            all.append(' ').append(oak.count(what));
        }
        for (int state = 0; state < 4 * oak.count(1); state++) {
            all.append(' ').append(oak.state(state, 0)).append(oak.on(state, 9, 0));
            for (int telling = 0; telling < oak.count(5) && oak.count(4) > 0; telling++) {
                all.append(' ').append(oak.end(telling, oak.count(4) - 1, state, 75, 0));
            }
        }
        years(oak, all);
    }

    private interface Answer {
        long get();
    }

    private static String answer(Answer of) {
        try {
            return " " + of.get();
        } catch (RuntimeException e) {
            return " " + e.getClass().getSimpleName();
        }
    }

    private static void tape(BurntOak oak, StringBuilder all) {
        int held = oak.count(7);
        all.append("\ntape").append(answer(() -> oak.telling(held, 0, 0)));
        all.append(answer(() -> oak.sayings(oak.count(5) - 1)));
        all.append(' ').append(oak.fault(0)).append(' ').append(oak.fault(1)).append(' ').append(oak.count(7));
    }

    /** The first year of each way and mark (the least with which it can end), and the last. */
    private static void years(BurntOak oak, StringBuilder all) {
        for (int n = 0; n < oak.count(1) + oak.count(2); n++) {
            boolean way = n < oak.count(1);
            int which = way ? n : n - oak.count(1);
            int first = 0;
            String last = answer(() -> oak.ends(way, which, 0));
            while (first < 200 && last.equals(" IllegalArgumentException")) {
                first++;
                int year = first;
                last = answer(() -> oak.ends(way, which, year));
            }
            all.append('\n').append(way ? "way " : "mark ").append(which).append(": ").append(first).append(" to").append(last);
        }
    }

    /** What a tray says, how long it is, and how it cuts. */
    private static void tray(BurntOak oak, int tray, StringBuilder all) {
        all.append("\ntray ").append(tray);
        String said = answer(() -> oak.say(tray, 0, 0));
        all.append(said);
        if (oak.count(5) > 0 && oak.count(4) > 0 && oak.count(1) > 0) {
            int telling = oak.count(5) - 1;
            for (int k = 0; k <= oak.sayings(telling); k++) {
                for (int state = 0; state < 4 * oak.count(1); state += 5) {
                    all.append(' ').append(oak.leads(telling, 0, state, 9, k, 0));
                }
            }
        }
        for (int place = 0; place < PROBED; place++) {
            int at = place;
            all.append(answer(() -> oak.write(tray, at, 0x123456789abcdef0L)));
        }
    }

    /** Ten sayings: in one of them a word comes as the first, the second .. of four, the others say nothing. */
    static String oneWord(int saying, int at, String word) {
        StringBuilder text = new StringBuilder();
        for (int n = 0; n < 10; n++) {
            for (int w = 0; w < 4 && n == saying; w++) {
                text.append(w == 0 ? "" : " or ").append(w == at ? word : "on 20");
            }
            text.append(n == saying ? ";" : "loose;");
        }
        return text.toString();
    }

    // ---- lines: places 0, 1, 2 .. from west to east; way n goes from place n to n + 1

    /** At place 0, facing east; come to place n: 4 * (n - 1). */
    static final int START = 1;

    static BurntOak line(int places, int length) {
        BurntOak oak = new BurntOak();
        for (int n = 0; n < places; n++) {
            oak.place(n, 50);
        }
        for (int n = 0; n + 1 < places; n++) {
            oak.way(n, n + 1, 0, length, 0, 200);
        }
        oak.tongue();
        return oak;
    }

    /** A plain walker of that patience. */
    static int walker(BurntOak oak, int patience) {
        return oak.walker(0, 4095, false, true, patience);
    }

    static int come(int place) {
        return 4 * (place - 1);
    }

    /** The states to which a text leads from the start in the year 9, in a world of its own. */
    static String led(World world, String text, int walker) {
        return led(world, text, walker, START, 9);
    }

    static String led(World world, String text, int walker, int state, int year) {
        BurntOak oak = world.make();
        int telling = Town.tell(oak, text, 0, 0);
        if (telling < 0) {
            return "fault " + telling;
        }
        return Town.states(oak, telling, walker, state, year);
    }
}
