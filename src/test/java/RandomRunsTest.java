import java.lang.reflect.InvocationTargetException;
import java.lang.reflect.Method;
import java.util.ArrayList;
import java.util.HashMap;
import java.util.List;
import java.util.Map;
import java.util.Random;

/**
 * Runs of random calls, made on a BurntOak and on the Model: each answer and each throw must be the same.
 * Arguments: how many runs, and the first one's number.
 */
public final class RandomRunsTest {
    private static final int CALLS = 512;
    private static final Map<String, Method> REAL = new HashMap<>();
    private static final Map<String, Method> PLAIN = new HashMap<>();
    private static int wrong = 0;

    private final Random random;
    private final BurntOak real = new BurntOak();
    private final Model plain = new Model();
    private final List<String> calls = new ArrayList<>();
    private final int run;
    private final boolean crowded;
    private final int grid;
    private int left = CALLS;
    private boolean differs;

    private RandomRunsTest(int run) {
        this.run = run;
        // Scattered, for what neighbouring seeds draw first is much alike.
        this.random = new Random(run * 0x9E3779B97F4A7C15L);
        this.crowded = random.nextInt(4) == 0;
        this.grid = 2 + random.nextInt(6);
    }

    public static void main(String[] args) throws Exception {
        int runs = args.length > 0 ? Integer.parseInt(args[0]) : 250;
        int first = args.length > 1 ? Integer.parseInt(args[1]) : 1;
        for (Method m : BurntOak.class.getDeclaredMethods()) {
            if (java.lang.reflect.Modifier.isPublic(m.getModifiers())) {
                REAL.put(m.getName(), m);
                PLAIN.put(m.getName(), Model.class.getDeclaredMethod(m.getName(), m.getParameterTypes()));
            }
        }
        Map<String, Integer> tally = new HashMap<>();
        for (int run = first; run < first + runs && wrong < 5; run++) {
            new RandomRunsTest(run).go(tally);
        }
        if (args.length > 0) {
            System.out.println(new java.util.TreeMap<>(tally));
        }
        System.out.println(wrong == 0 ? runs + " random runs are as the model's" : wrong + " random runs differ");
        if (wrong != 0) {
            System.exit(1);
        }
    }

    private void go(Map<String, Integer> tally) throws Exception {
        if (!crowded && random.nextInt(3) == 0) {
            settleElsewhere();
        }
        settle();
        while (left > 0 && !differs) {
            ask();
        }
        for (String c : calls) {
            String name = c.substring(0, c.indexOf('(')) + (c.contains("throws") ? " throws" : "");
            tally.merge(name, 1, Integer::sum);
        }
    }

    private Object call(String name, Object... args) throws Exception {
        if (left == 0 || differs) {
            return null;
        }
        left--;
        Object got = answer(REAL.get(name), real, args);
        Object due = answer(PLAIN.get(name), plain, args);
        calls.add(name + List.of(args).toString().replace('[', '(').replace(']', ')') + " = " + due);
        if (!String.valueOf(got).equals(String.valueOf(due))) {
            differs = true;
            wrong++;
            System.out.println("run " + run + ", call " + calls.size() + ": answered " + got + ", due is " + due);
            for (String c : calls) {
                System.out.println("  " + c);
            }
        }
        return due;
    }

    private static Object answer(Method m, Object on, Object[] args) throws Exception {
        try {
            return m.invoke(on, args);
        } catch (InvocationTargetException e) {
            return "throws " + e.getCause().getClass().getSimpleName();
        }
    }

    // ---- the world

    private void settle() throws Exception {
        int places = crowded ? 40 : 3 + random.nextInt(14);
        for (int n = 0; n < places; n++) {
            call("place", coordinate(), coordinate());
        }
        int ways = crowded ? 70 : 2 + random.nextInt(3 * places);
        for (int n = 0; n < ways; n++) {
            way();
        }
        int marks = crowded ? 42 : random.nextInt(20);
        for (int n = 0; n < marks; n++) {
            mark();
        }
        int tongues = 1 + random.nextInt(crowded ? 7 : 3);
        for (int n = 0; n < tongues; n++) {
            call("tongue");
        }
        for (int n = random.nextInt(8); n > 0; n--) {
            means();
        }
        int walkers = 1 + random.nextInt(crowded ? 9 : 4);
        for (int n = 0; n < walkers; n++) {
            walker();
        }
        int tellings = 1 + random.nextInt(crowded ? 13 : 6);
        for (int n = 0; n < tellings; n++) {
            tell();
        }
    }

    /** Another world, which stays in image 1; nothing stays in image 0. */
    private void settleElsewhere() throws Exception {
        call("image", 0);
        settle();
        for (int n = 0; n < 20; n++) {
            ask();
        }
        call("image", 1);
        call("restore", 0);
    }

    private int coordinate() {
        if (random.nextInt(60) == 0) {
            return random.nextInt(2) == 0 ? -1 : 100;
        }
        return random.nextInt(5) == 0 ? random.nextInt(100) : random.nextInt(grid + 2) * 99 / (grid + 2);
    }

    private void way() throws Exception {
        int from = firstYear();
        int length = random.nextInt(4) == 0 ? 1 + random.nextInt(99) : 1 + random.nextInt(9);
        call("way", place(), place(), number(0, 2), odd() ? number(1, 99) : length, from, lastYear(from));
    }

    private void mark() throws Exception {
        int from = firstYear();
        call("mark", place(), number(0, random.nextBoolean() ? 3 : 11), random.nextInt(3) == 0, from, lastYear(from));
    }

    private void means() throws Exception {
        call("means", below(plain.w.tongues.size()), number(0, 11), set(12));
    }

    private void walker() throws Exception {
        int notices = random.nextInt(3) > 0 ? 4095 : set(12);
        call("walker", below(plain.w.tongues.size()), notices, random.nextInt(3) == 0, random.nextBoolean(), number(1, 20));
    }

    private int firstYear() {
        return random.nextInt(3) > 0 ? 0 : year();
    }

    private int lastYear(int from) {
        return random.nextInt(3) > 0 ? 200 : random.nextInt(12) == 0 ? year() : from + random.nextInt(Math.max(1, 201 - from));
    }

    // ---- arguments

    private boolean odd() {
        return random.nextInt(40) == 0;
    }

    private int number(int low, int high) {
        if (odd()) {
            int[] strange = {low - 1, high + 1, Integer.MIN_VALUE, Integer.MAX_VALUE};
            return strange[random.nextInt(4)];
        }
        return low + random.nextInt(high - low + 1);
    }

    private int below(int many) {
        return many == 0 ? random.nextInt(3) - 1 : number(0, many - 1);
    }

    private int set(int bits) {
        if (bits == 0 || odd()) {
            return random.nextInt(3) == 0 ? -1 : 1 << bits;
        }
        int set = random.nextInt(1 << bits);
        return random.nextInt(2) == 0 ? set & random.nextInt(1 << bits) : set;
    }

    private int place() {
        return below(plain.w.places.size());
    }

    private int state() {
        return below(4 * plain.w.ways.size());
    }

    private int someone() {
        return below(plain.w.walkers.size());
    }

    private int told() {
        return below(plain.w.tellings.size());
    }

    private int year() {
        return random.nextInt(8) == 0 ? random.nextInt(2) * 200 : number(0, 200);
    }

    private int index() {
        return random.nextInt(3) == 0 ? -1 : odd() ? number(0, 3) : random.nextInt(3);
    }

    // ---- tellings

    private String name() {
        return Model.NAMES.get(random.nextInt(random.nextBoolean() ? 4 : 12));
    }

    private String side() {
        return random.nextBoolean() ? "left" : "right";
    }

    private String amount() {
        if (random.nextInt(80) == 0) {
            return new String[] {"0", "00", "21", "99", "100", "020"}[random.nextInt(6)];
        }
        int n = random.nextInt(3) == 0 ? 1 + random.nextInt(20) : 1 + random.nextInt(3);
        return n < 10 && random.nextInt(10) == 0 ? "0" + n : "" + n;
    }

    private String word() {
        switch (random.nextInt(13)) {
            case 0, 1:
                return "on " + amount();
            case 2, 3:
                return "on until " + name();
            case 4:
                return "past " + name();
            case 5:
                return "far " + amount();
            case 6:
                return "see " + name();
            case 7:
                return "over " + name();
            case 8:
                return "loose";
            case 9:
                return "back";
            case 10:
                return side();
            case 11:
                return amount() + " " + side();
            default:
                return amount() + " " + side() + " not " + name();
        }
    }

    private String text() {
        int many = random.nextInt(12) == 0 ? 9 + random.nextInt(3) : random.nextInt(5);
        StringBuilder text = new StringBuilder();
        for (int n = 0; n < many; n++) {
            text.append(word());
            for (int ors = 0; ors < 5 && random.nextInt(5) < 2; ors++) {
                text.append(" or ").append(word());
            }
            text.append(random.nextBoolean() ? "; " : ";");
        }
        String whole = text.toString();
        if (random.nextInt(3) == 0) {
            whole = whole.replace(" ", random.nextBoolean() ? "\n" : "  ");
        }
        if (random.nextInt(6) == 0) {
            whole = spoil(whole);
        }
        return whole.length() > 200 ? whole.substring(0, 200) : whole;
    }

    private String spoil(String text) {
        int at = random.nextInt(text.length() + 1);
        String[] strange = {"x", "!", "\t", ";", "or", " or ", "7", "123", "not oak", "\u00e9", "A", " on ", "left", ""};
        int behind = Math.min(text.length(), at + random.nextInt(3));
        return text.substring(0, at) + strange[random.nextInt(strange.length)] + text.substring(behind);
    }

    private void tell() throws Exception {
        if (random.nextInt(5) == 0) {
            layTray();
            call("say", number(0, 3), place(), number(0, 9));
            return;
        }
        String text = text();
        int length = text.length();
        byte[] bytes = new byte[(length + 19) / 20 * 20];
        for (int n = 0; n < bytes.length; n++) {
            bytes[n] = n < length ? (byte) text.charAt(n) : (byte) (random.nextInt(3) > 0 ? 32 : random.nextInt(256));
        }
        for (int n = 0; n < bytes.length; n += 20) {
            call("feed", four(bytes, n), four(bytes, n + 4), four(bytes, n + 8), four(bytes, n + 12), four(bytes, n + 16));
        }
        int read = random.nextInt(10) == 0 ? random.nextInt(length + 1) : random.nextInt(30) == 0 ? bytes.length : length;
        call("telling", odd() ? number(0, 200) : read, place(), number(0, 9));
        if (random.nextInt(3) == 0) {
            call("fault", number(0, 1));
            call("fault", number(0, 1));
        }
    }

    private static int four(byte[] bytes, int at) {
        return (bytes[at] & 255) << 24 | (bytes[at + 1] & 255) << 16 | (bytes[at + 2] & 255) << 8 | bytes[at + 3] & 255;
    }

    private void layTray() throws Exception {
        int tray = number(0, 3);
        int many = random.nextInt(4) == 0 ? number(0, 12) : random.nextInt(4);
        int places = Math.max(0, Math.min(many, 12));
        call("tray", tray, number(0, 3), many);
        for (int n = 0; n < places; n++) {
            long v = random.nextInt(12) == 0 ? random.nextLong() >> random.nextInt(64) : random.nextInt(31);
            call("write", tray, odd() ? number(0, places) : n, v);
        }
    }

    // ---- calls

    private void ask() throws Exception {
        switch (random.nextInt(40)) {
            case 0 -> call("place", coordinate(), coordinate());
            case 1 -> way();
            case 2 -> mark();
            case 3 -> call("ends", random.nextBoolean(), below(random.nextBoolean() ? plain.w.ways.size() : plain.w.marks.size()), year());
            case 4 -> call("state", state(), number(0, 2));
            case 5 -> call("out", state(), number(0, 2), year());
            case 6 -> call("on", state(), year(), index());
            case 7 -> call(random.nextInt(4) == 0 ? "tongue" : "teller");
            case 8 -> means();
            case 9 -> walker();
            case 10 -> call("stands", someone(), number(0, 11), place(), year(), random.nextBoolean());
            case 11 -> call("worth", below(plain.w.marks.size()), set(plain.w.walkers.size()), year(), number(0, 1));
            case 12 -> tell();
            case 13 -> call("fault", number(0, 1));
            case 14 -> call("sayings", told());
            case 15, 16, 17 -> leads();
            case 18 -> call("holds", told(), someone(), state(), year());
            case 19, 20 -> call("end", told(), someone(), state(), year(), index());
            case 21 -> call("right", told(), someone(), state(), year());
            case 22, 23 -> call("odds", told(), someone(), state(), year(), place());
            case 24 -> call("parts", told(), someone(), state(), year());
            case 25 -> call("hangs", told(), someone(), place(), year(), random.nextBoolean());
            case 26 -> years();
            case 27, 28 -> call("two", told(), state(), told(), state(), someone(), year(), number(0, 1));
            case 29, 30 -> call("ask", told(), someone(), someone(), state(), year(), price(), random.nextBoolean());
            case 31 -> shortest();
            case 32, 33 -> went();
            case 34 -> call("learned", someone(), number(0, random.nextBoolean() ? 3 : 11));
            case 35 -> call("told", number(0, 9), random.nextBoolean());
            case 36 -> layTray();
            case 37 -> call(random.nextInt(3) > 0 ? "image" : "restore", number(0, 2));
            case 38 -> call("count", number(0, 7));
            default -> call("say", number(0, 3), place(), number(0, 9));
        }
    }

    private int price() {
        return random.nextBoolean() ? 0 : random.nextInt(4) == 0 ? number(0, 1000000) : random.nextInt(200000);
    }

    private void leads() throws Exception {
        int telling = told();
        boolean is = telling >= 0 && telling < plain.w.tellings.size();
        int all = is ? plain.w.tellings.get(telling).sayings().size() : 0;
        call("leads", telling, someone(), state(), year(), number(0, all), index());
    }

    private void years() throws Exception {
        if (random.nextInt(3) == 0) {
            call("years", told(), someone(), state(), number(0, 2));
        }
    }

    private void shortest() throws Exception {
        int most = number(1, 3);
        int walkers = set(plain.w.walkers.size());
        int state = state();
        int place = place();
        int year = year();
        call("shortest", walkers, state, place, year, most, -1);
        call("shortest", walkers, state, place, year, most, number(0, 2));
    }

    private void went() throws Exception {
        int walker = someone();
        int telling = told();
        int state = state();
        int year = year();
        Object end = call("end", telling, walker, state, year, 0);
        boolean real = end instanceof Integer && (Integer) end >= 0 && random.nextInt(4) > 0;
        call("went", walker, telling, state, year, real ? (Integer) end : place());
    }
}
