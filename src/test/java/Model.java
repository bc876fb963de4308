import java.util.ArrayList;
import java.util.Arrays;
import java.util.HashMap;
import java.util.List;
import java.util.Map;
import java.util.NoSuchElementException;
import java.util.Set;
import java.util.TreeMap;
import java.util.TreeSet;

/** The document's words done as plainly as can be, without any thought of speed: what BurntOak is held against. */
final class Model {
    static final int NONE = -1;
    static final List<String> NAMES = List.of("oak", "farm", "bridge", "school", "pond", "church", "inn", "gate",
            "stone", "mill", "well", "cross");

    record Place(int x, int y) { }

    record Way(int a, int b, int kind, int length, int from, int to) {
        boolean in(int year) {
            return from <= year && year <= to;
        }
    }

    record Mark(int place, int kind, boolean tall, int from, int to) {
        boolean in(int year) {
            return from <= year && year <= to;
        }
    }

    record Walker(int tongue, int notices, boolean turns, boolean paths, int patience) { }

    record Telling(List<List<List<String>>> sayings, int goal, int teller) { }

    record Went(int walker, int telling, int state, int year, int place) { }

    static final class World {
        List<Place> places = new ArrayList<>();
        List<Way> ways = new ArrayList<>();
        List<Mark> marks = new ArrayList<>();
        List<int[]> tongues = new ArrayList<>();
        List<Walker> walkers = new ArrayList<>();
        List<Telling> tellings = new ArrayList<>();
        List<Went> records = new ArrayList<>();

        World copy() {
            World c = new World();
            c.places.addAll(places);
            c.ways.addAll(ways);
            c.marks.addAll(marks);
            for (int[] t : tongues) {
                c.tongues.add(t.clone());
            }
            c.walkers.addAll(walkers);
            c.tellings.addAll(tellings);
            c.records.addAll(records);
            return c;
        }
    }

    static final class Fault extends Exception {
        private static final long serialVersionUID = 1;
        final int kind;
        final int at;

        Fault(int kind, int at) {
            this.kind = kind;
            this.at = at;
        }
    }

    World w = new World();
    final World[] images = new World[3];
    final long[][] trays = new long[4][];
    final int[] sorts = new int[4];
    byte[] tape = new byte[0];
    int fault;
    int faultAt = NONE;

    static void need(boolean so) {
        if (!so) {
            throw new NoSuchElementException();
        }
    }

    static void fit(boolean so) {
        if (!so) {
            throw new IllegalArgumentException();
        }
    }

    static boolean in(int n, int low, int high) {
        return n >= low && n <= high;
    }

    void needPlace(int p) {
        need(in(p, 0, w.places.size() - 1));
    }

    void needState(int s) {
        need(in(s, 0, 4 * w.ways.size() - 1));
    }

    void needWalker(int p) {
        need(in(p, 0, w.walkers.size() - 1));
    }

    void needTelling(int p) {
        need(in(p, 0, w.tellings.size() - 1));
    }

    static int pick(List<Integer> all, int i) {
        return i == NONE ? all.size() : i >= 0 && i < all.size() ? all.get(i) : NONE;
    }

    // ---- the ground

    int place(int x, int y) {
        fit(in(x, 0, 99) && in(y, 0, 99) && !w.places.contains(new Place(x, y)));
        if (w.places.size() == 40) {
            return NONE;
        }
        w.places.add(new Place(x, y));
        return w.places.size() - 1;
    }

    int way(int a, int b, int kind, int length, int from, int to) {
        needPlace(a);
        needPlace(b);
        fit(a != b && in(kind, 0, 2) && in(length, 1, 99) && in(from, 0, 200) && in(to, 0, 200) && from <= to);
        for (Way o : w.ways) {
            if (Set.of(o.a, o.b).equals(Set.of(a, b))) {
                for (int year = from; year <= to; year++) {
                    fit(!o.in(year));
                }
            }
        }
        if (w.ways.size() == 60) {
            return NONE;
        }
        w.ways.add(new Way(a, b, kind, length, from, to));
        return w.ways.size() - 1;
    }

    int mark(int place, int kind, boolean tall, int from, int to) {
        needPlace(place);
        fit(in(kind, 0, 11) && in(from, 0, 200) && in(to, 0, 200) && from <= to);
        if (w.marks.size() == 40) {
            return NONE;
        }
        w.marks.add(new Mark(place, kind, tall, from, to));
        return w.marks.size() - 1;
    }

    int ends(boolean way, int which, int year) {
        need(in(which, 0, (way ? w.ways.size() : w.marks.size()) - 1));
        if (way) {
            Way o = w.ways.get(which);
            fit(o.in(year));
            w.ways.set(which, new Way(o.a, o.b, o.kind, o.length, o.from, year));
            return o.to;
        }
        Mark o = w.marks.get(which);
        fit(o.in(year));
        w.marks.set(which, new Mark(o.place, o.kind, o.tall, o.from, year));
        return o.to;
    }

    int first(int arrow) {
        Way o = w.ways.get(arrow / 2);
        return arrow % 2 == 0 ? o.a : o.b;
    }

    int last(int arrow) {
        return first(arrow ^ 1);
    }

    int spot(int state) {
        return state % 2 == 0 ? last(state / 2) : first(state / 2);
    }

    int state(int state, int what) {
        needState(state);
        fit(in(what, 0, 2));
        return what == 0 ? spot(state) : what == 1 ? 1 - state % 2 : state / 4;
    }

    List<Integer> waysOut(int state, int year) {
        List<Integer> all = new ArrayList<>();
        for (int arrow = 0; arrow < 2 * w.ways.size(); arrow++) {
            boolean back = state % 2 == 0 && arrow == (state / 2 ^ 1);
            if (w.ways.get(arrow / 2).in(year) && first(arrow) == spot(state) && !back) {
                all.add(arrow);
            }
        }
        return all;
    }

    long[] vector(int arrow) {
        Place from = w.places.get(first(arrow));
        Place to = w.places.get(last(arrow));
        return new long[] {to.x - from.x, to.y - from.y};
    }

    int sideOf(int state, int arrow) {
        long[] f = vector(state / 2);
        long[] v = vector(arrow);
        long cross = f[0] * v[1] - f[1] * v[0];
        return cross > 0 ? 0 : cross < 0 ? 1 : 2;
    }

    boolean lessTurned(int state, int one, int other) {
        long[] f = vector(state / 2);
        long[] v = vector(one);
        long[] u = vector(other);
        long dotV = f[0] * v[0] + f[1] * v[1];
        long dotU = f[0] * u[0] + f[1] * u[1];
        return dotV * Math.abs(dotV) * (u[0] * u[0] + u[1] * u[1]) > dotU * Math.abs(dotU) * (v[0] * v[0] + v[1] * v[1]);
    }

    int out(int state, int side, int year) {
        needState(state);
        fit(in(side, 0, 2) && in(year, 0, 200));
        int many = 0;
        for (int arrow : waysOut(state, year)) {
            many += sideOf(state, arrow) == side ? 1 : 0;
        }
        return many;
    }

    List<Integer> goOn(int state, int year) {
        List<Integer> all = new ArrayList<>();
        List<Integer> outs = waysOut(state, year);
        for (int arrow : outs) {
            boolean least = true;
            for (int other : outs) {
                least &= !lessTurned(state, other, arrow);
            }
            if (least) {
                all.add(2 * arrow);
            }
        }
        return all;
    }

    int on(int state, int year, int i) {
        needState(state);
        fit(in(year, 0, 200));
        return pick(goOn(state, year), i);
    }

    // ---- tongues, walkers

    int tongue() {
        if (w.tongues.size() == 6) {
            return NONE;
        }
        int[] t = new int[12];
        for (int n = 0; n < 12; n++) {
            t[n] = 1 << n;
        }
        w.tongues.add(t);
        return w.tongues.size() - 1;
    }

    int means(int tongue, int name, int kinds) {
        need(in(tongue, 0, w.tongues.size() - 1));
        need(in(name, 0, 11));
        fit(in(kinds, 0, 4095));
        int before = w.tongues.get(tongue)[name];
        w.tongues.get(tongue)[name] = kinds;
        return before;
    }

    int walker(int tongue, int notices, boolean turns, boolean paths, int patience) {
        need(in(tongue, 0, w.tongues.size() - 1));
        fit(in(notices, 0, 4095) && in(patience, 1, 20));
        if (w.walkers.size() == 8) {
            return NONE;
        }
        w.walkers.add(new Walker(tongue, notices, turns, paths, patience));
        return w.walkers.size() - 1;
    }

    boolean isNamed(Mark m, int walker, int name, int year) {
        Walker o = w.walkers.get(walker);
        return m.in(year) && (w.tongues.get(o.tongue)[name] >> m.kind & 1) == 1 && (o.notices >> m.kind & 1) == 1;
    }

    boolean stand(int walker, int name, int place, int year) {
        for (Mark m : w.marks) {
            if (m.place == place && isNamed(m, walker, name, year)) {
                return true;
            }
        }
        return false;
    }

    boolean see(int walker, int name, int place, int year) {
        if (stand(walker, name, place, year)) {
            return true;
        }
        for (Mark m : w.marks) {
            for (Way o : w.ways) {
                boolean leads = o.a == place && o.b == m.place || o.b == place && o.a == m.place;
                if (m.tall && o.in(year) && leads && isNamed(m, walker, name, year)) {
                    return true;
                }
            }
        }
        return false;
    }

    boolean stands(int walker, int name, int place, int year, boolean seen) {
        needWalker(walker);
        need(in(name, 0, 11));
        needPlace(place);
        fit(in(year, 0, 200));
        return seen ? see(walker, name, place, year) : stand(walker, name, place, year);
    }

    int worth(int mark, int walkers, int year, int what) {
        need(in(mark, 0, w.marks.size() - 1));
        fit(in(walkers, 0, (1 << w.walkers.size()) - 1) && in(year, 0, 200) && in(what, 0, 1));
        Mark m = w.marks.get(mark);
        if (!m.in(year)) {
            return NONE;
        }
        int many = 0;
        if (what == 1) {
            for (Mark o : w.marks) {
                many += o != m && o.kind == m.kind && o.in(year) ? 1 : 0;
            }
            return many;
        }
        for (int p = 0; p < w.walkers.size(); p++) {
            boolean known = false;
            for (int name = 0; name < 12; name++) {
                known |= isNamed(m, p, name, year);
            }
            many += (walkers >> p & 1) == 1 && known ? 1 : 0;
        }
        return many;
    }

    // ---- tellings

    int feed(int a, int b, int c, int d, int e) {
        if (tape.length + 20 > 200) {
            return NONE;
        }
        int at = tape.length;
        tape = Arrays.copyOf(tape, at + 20);
        for (int n : new int[] {a, b, c, d, e}) {
            tape[at++] = (byte) (n >>> 24);
            tape[at++] = (byte) (n >>> 16);
            tape[at++] = (byte) (n >>> 8);
            tape[at++] = (byte) n;
        }
        return tape.length;
    }

    int telling(int n, int goal, int teller) {
        needPlace(goal);
        fit(in(n, 0, tape.length) && in(teller, 0, 9));
        if (w.tellings.size() == 12) {
            return NONE;
        }
        StringBuilder text = new StringBuilder();
        for (int i = 0; i < n; i++) {
            text.append((char) (tape[i] & 255));
        }
        tape = new byte[0];
        fault = 0;
        faultAt = NONE;
        try {
            w.tellings.add(new Telling(new Parser(text.toString()).text(), goal, teller));
        } catch (Fault f) {
            fault = f.kind;
            faultAt = f.at;
            return -10 - f.kind;
        }
        return w.tellings.size() - 1;
    }

    static final class Parser {
        final String text;
        String token;
        int at;
        int behind;

        Parser(String text) {
            this.text = text;
        }

        void next() throws Fault {
            while (behind < text.length() && " \n".indexOf(text.charAt(behind)) >= 0) {
                behind++;
            }
            at = behind;
            String rest = text.substring(at);
            token = rest.isEmpty() ? "" : rest.replaceFirst("(?s)^([a-z]+|[0-9]+|;|.).*$", "$1");
            behind = at + token.length();
            if (!token.matches("([a-z]+|[0-9]{1,2}|;)?")) {
                throw new Fault(1, at);
            }
        }

        Fault wrong() {
            return new Fault(2, at);
        }

        List<List<List<String>>> text() throws Fault {
            List<List<List<String>>> all = new ArrayList<>();
            next();
            while (!token.isEmpty()) {
                all.add(saying(all.size() == 10));
                if (!token.equals(";")) {
                    throw wrong();
                }
                next();
            }
            return all;
        }

        List<List<String>> saying(boolean tooMany) throws Fault {
            List<List<String>> all = new ArrayList<>();
            all.add(word(tooMany));
            while (token.equals("or")) {
                if (all.size() == 4) {
                    throw new Fault(4, at);
                }
                next();
                all.add(word(false));
            }
            return all;
        }

        List<String> word(boolean tooMany) throws Fault {
            List<String> word = new ArrayList<>(List.of(token));
            boolean starts = Set.of("on", "past", "far", "see", "over", "loose", "back", "left", "right").contains(token);
            if (!starts) {
                number();
            }
            if (tooMany) {
                throw new Fault(4, at);
            }
            next();
            switch (word.get(0)) {
                case "on":
                    if (token.equals("until")) {
                        word.add(token);
                        next();
                        word.add(name());
                    } else {
                        word.add(number());
                    }
                    next();
                    break;
                case "past", "see", "over":
                    word.add(name());
                    next();
                    break;
                case "far":
                    word.add(number());
                    next();
                    break;
                case "loose", "back", "left", "right":
                    break;
                default:
                    if (!token.equals("left") && !token.equals("right")) {
                        throw wrong();
                    }
                    word.add(token);
                    next();
                    if (token.equals("not")) {
                        next();
                        word.add(name());
                        next();
                    }
                    break;
            }
            return word;
        }

        String name() throws Fault {
            if (!NAMES.contains(token)) {
                throw wrong();
            }
            return token;
        }

        String number() throws Fault {
            if (!token.matches("[0-9]+")) {
                throw wrong();
            }
            if (!in(Integer.parseInt(token), 1, 20)) {
                throw new Fault(3, at);
            }
            return token;
        }
    }

    int fault(int what) {
        return what == 0 ? fault : what == 1 ? faultAt : NONE;
    }

    int sayings(int telling) {
        needTelling(telling);
        return w.tellings.get(telling).sayings.size();
    }

    /** One who walks in a year; what has been asked already is kept by what was asked. */
    final class Walk {
        final int who;
        final Walker walker;
        final int year;
        final Map<String, Set<Integer>> known = new HashMap<>();

        Walk(int who, int year) {
            this.who = who;
            this.walker = w.walkers.get(who);
            this.year = year;
        }

        boolean stand(String name, int state) {
            return Model.this.stand(who, NAMES.indexOf(name), spot(state), year);
        }

        Set<Integer> until(String name, int state, int left) {
            String key = "until " + name + " " + state + " " + left;
            if (!known.containsKey(key)) {
                Set<Integer> all = new TreeSet<>();
                for (int next : left == 0 ? List.<Integer>of() : goOn(state, year)) {
                    if (stand(name, next)) {
                        all.add(next);
                    } else {
                        all.addAll(until(name, next, left - 1));
                    }
                }
                known.put(key, all);
            }
            return known.get(key);
        }

        Set<Integer> times(int state, int left) {
            String key = "times " + state + " " + left;
            if (!known.containsKey(key)) {
                Set<Integer> all = new TreeSet<>();
                for (int next : goOn(state, year)) {
                    all.addAll(left == 1 ? Set.of(next) : times(next, left - 1));
                }
                known.put(key, all);
            }
            return known.get(key);
        }

        Set<Integer> far(int n, int gone, int state, int left) {
            String key = "far " + n + " " + gone + " " + state + " " + left;
            if (!known.containsKey(key)) {
                Set<Integer> all = new TreeSet<>();
                for (int next : left == 0 ? List.<Integer>of() : goOn(state, year)) {
                    int then = gone + w.ways.get(next / 4).length;
                    if (2 * then >= n && then <= 2 * n) {
                        all.add(next);
                    }
                    all.addAll(far(n, then, next, left - 1));
                }
                known.put(key, all);
            }
            return known.get(key);
        }

        Set<Integer> toSide(int state, String side, boolean allPaths) {
            Set<Integer> all = new TreeSet<>();
            int wanted = side.equals("left") != walker.turns ? 0 : 1;
            for (int arrow : waysOut(state, year)) {
                if (sideOf(state, arrow) == wanted && (allPaths || w.ways.get(arrow / 2).kind != 2)) {
                    all.add(2 * arrow);
                }
            }
            return all;
        }

        Set<Integer> nth(int n, String side, String not, int state, int left) {
            String key = "nth " + n + " " + side + " " + not + " " + state + " " + left;
            if (!known.containsKey(key)) {
                Set<Integer> all = new TreeSet<>();
                for (int next : left == 0 ? List.<Integer>of() : goOn(state, year)) {
                    Set<Integer> ends = toSide(next, side, walker.paths);
                    boolean counts = !ends.isEmpty() && (not == null || !stand(not, next));
                    if (counts && n == 1) {
                        all.addAll(ends);
                    } else {
                        all.addAll(nth(counts ? n - 1 : n, side, not, next, left - 1));
                    }
                }
                known.put(key, all);
            }
            return known.get(key);
        }

        boolean over(String name, int state, int left) {
            for (int next : left == 0 ? List.<Integer>of() : goOn(state, year)) {
                if (stand(name, next) || over(name, next, left - 1)) {
                    return true;
                }
            }
            return false;
        }

        Set<Integer> word(List<String> word, int state) {
            Set<Integer> stay = Set.of(state);
            Set<Integer> none = Set.of();
            switch (word.get(0)) {
                case "on":
                    if (word.get(1).equals("until")) {
                        return until(word.get(2), state, walker.patience);
                    }
                    int n = Integer.parseInt(word.get(1));
                    return n > walker.patience ? none : times(state, n);
                case "past":
                    Set<Integer> all = new TreeSet<>();
                    for (int next : until(word.get(1), state, walker.patience)) {
                        all.addAll(goOn(next, year));
                    }
                    return all;
                case "far":
                    return far(Integer.parseInt(word.get(1)), 0, state, walker.patience);
                case "see":
                    return see(who, NAMES.indexOf(word.get(1)), spot(state), year) ? stay : none;
                case "over":
                    return over(word.get(1), state, 3) ? stay : none;
                case "loose":
                    return stay;
                case "back":
                    return state % 2 == 0 && w.ways.get(state / 4).in(year) ? Set.of(2 * (state / 2 ^ 1)) : none;
                case "left", "right":
                    return toSide(state, word.get(0), true);
                default:
                    String not = word.size() > 2 ? word.get(2) : null;
                    return nth(Integer.parseInt(word.get(0)), word.get(1), not, state, walker.patience);
            }
        }

        Set<Integer> saying(List<List<String>> saying, int state) {
            Set<Integer> all = new TreeSet<>();
            for (List<String> word : saying) {
                all.addAll(word(word, state));
            }
            return all;
        }

        Set<Integer> sayings(List<List<List<String>>> sayings, int state) {
            Set<Integer> now = new TreeSet<>(Set.of(state));
            for (List<List<String>> saying : sayings) {
                Set<Integer> next = new TreeSet<>();
                for (int s : now) {
                    next.addAll(saying(saying, s));
                }
                now = next;
            }
            return now;
        }

        Set<Integer> ends(List<List<List<String>>> sayings, int state) {
            Set<Integer> all = new TreeSet<>();
            for (int s : sayings(sayings, state)) {
                all.add(spot(s));
            }
            return all;
        }

        boolean right(int telling, int state) {
            return ends(w.tellings.get(telling).sayings, state).equals(Set.of(w.tellings.get(telling).goal));
        }

        Map<Integer, Integer> share(int many, Set<Integer> states) {
            Map<Integer, Integer> shares = new TreeMap<>();
            int n = 0;
            for (int s : states) {
                shares.put(s, many / states.size() + (n < many % states.size() ? 1 : 0));
                n++;
            }
            return shares;
        }

        Map<Integer, Integer> odds(Map<Integer, Integer> from, List<List<List<String>>> sayings) {
            Map<Integer, Integer> now = from;
            for (List<List<String>> saying : sayings) {
                Map<Integer, Integer> next = new TreeMap<>();
                for (Map.Entry<Integer, Integer> e : now.entrySet()) {
                    share(e.getValue(), saying(saying, e.getKey())).forEach((s, n) -> next.merge(s, n, Integer::sum));
                }
                now = next;
            }
            Map<Integer, Integer> places = new TreeMap<>();
            now.forEach((s, n) -> places.merge(spot(s), n, Integer::sum));
            return places;
        }

        Map<Integer, Integer> odds(int telling, int state) {
            return odds(Map.of(state, 1000000), w.tellings.get(telling).sayings);
        }
    }

    Walk setOut(int telling, int walker, int state) {
        needTelling(telling);
        needWalker(walker);
        needState(state);
        return null;
    }

    int leads(int telling, int walker, int state, int year, int k, int i) {
        setOut(telling, walker, state);
        List<List<List<String>>> sayings = w.tellings.get(telling).sayings;
        fit(in(year, 0, 200) && in(k, 0, sayings.size()));
        return pick(new ArrayList<>(new Walk(walker, year).sayings(sayings.subList(0, k), state)), i);
    }

    int holds(int telling, int walker, int state, int year) {
        setOut(telling, walker, state);
        fit(in(year, 0, 200));
        List<List<List<String>>> sayings = w.tellings.get(telling).sayings;
        int k = 0;
        while (k < sayings.size() && !new Walk(walker, year).sayings(sayings.subList(0, k + 1), state).isEmpty()) {
            k++;
        }
        return k;
    }

    int end(int telling, int walker, int state, int year, int i) {
        setOut(telling, walker, state);
        fit(in(year, 0, 200));
        return pick(new ArrayList<>(new Walk(walker, year).ends(w.tellings.get(telling).sayings, state)), i);
    }

    boolean right(int telling, int walker, int state, int year) {
        setOut(telling, walker, state);
        fit(in(year, 0, 200));
        return new Walk(walker, year).right(telling, state);
    }

    int odds(int telling, int walker, int state, int year, int place) {
        setOut(telling, walker, state);
        needPlace(place);
        fit(in(year, 0, 200));
        return new Walk(walker, year).odds(telling, state).getOrDefault(place, 0);
    }

    int parts(int telling, int walker, int state, int year) {
        setOut(telling, walker, state);
        fit(in(year, 0, 200));
        for (int name = 0; name < 12; name++) {
            List<List<List<String>>> longer = new ArrayList<>(w.tellings.get(telling).sayings);
            longer.add(List.of(List.of("see", NAMES.get(name))));
            if (new Walk(walker, year).ends(longer, state).equals(Set.of(w.tellings.get(telling).goal))) {
                return name;
            }
        }
        return NONE;
    }

    int hangs(int telling, int walker, int place, int year, boolean right) {
        needTelling(telling);
        needWalker(walker);
        needPlace(place);
        fit(in(year, 0, 200));
        int many = 0;
        for (int s = 0; s < 4 * w.ways.size(); s++) {
            if (s % 2 == 1 && spot(s) == place && w.ways.get(s / 4).in(year)) {
                many += new Walk(walker, year).right(telling, s) == right ? 1 : 0;
            }
        }
        return many;
    }

    int years(int telling, int walker, int state, int what) {
        setOut(telling, walker, state);
        fit(in(what, 0, 2));
        List<Integer> all = new ArrayList<>();
        for (int year = 0; year <= 200; year++) {
            if (new Walk(walker, year).right(telling, state)) {
                all.add(year);
            }
        }
        return what == 0 ? all.size() : all.isEmpty() ? NONE : what == 1 ? all.get(0) : all.get(all.size() - 1);
    }

    int two(int one, int from, int other, int at, int walker, int year, int what) {
        setOut(one, walker, from);
        setOut(other, walker, at);
        fit(in(year, 0, 200) && in(what, 0, 1));
        Walk walk = new Walk(walker, year);
        if (what == 0) {
            Set<Integer> both = walk.ends(w.tellings.get(one).sayings, from);
            both.retainAll(walk.ends(w.tellings.get(other).sayings, at));
            return both.size();
        }
        Map<Integer, Integer> first = walk.odds(one, from);
        Map<Integer, Integer> second = walk.odds(other, at);
        long sum = 0;
        for (int p = 0; p < w.places.size(); p++) {
            sum += (long) first.getOrDefault(p, 0) * second.getOrDefault(p, 0) / 1000000;
        }
        return (int) sum;
    }

    int ask(int telling, int walker, int teller, int state, int year, int price, boolean loss) {
        setOut(telling, walker, state);
        needWalker(teller);
        fit(in(year, 0, 200) && in(price, 0, 1000000));
        Walk walk = new Walk(walker, year);
        List<List<List<String>>> all = w.tellings.get(telling).sayings;
        int goal = w.tellings.get(telling).goal;
        int least = 1000000 - walk.odds(telling, state).getOrDefault(goal, 0);
        int best = 0;
        for (int k = 1; k < all.size(); k++) {
            Set<Integer> told = new Walk(teller, year).sayings(all.subList(0, k), state);
            if (!told.isEmpty()) {
                Map<Integer, Integer> ends = walk.odds(walk.share(1000000, told), all.subList(k, all.size()));
                int then = 1000000 - ends.getOrDefault(goal, 0) + price;
                if (then < least) {
                    least = then;
                    best = k;
                }
            }
        }
        return loss ? least : best;
    }

    static List<String> listed(int n) {
        if (n == 0) {
            return List.of("on", "1");
        }
        if (n < 3) {
            return List.of(n == 1 ? "left" : "right");
        }
        if (n < 15) {
            return List.of("on", "until", NAMES.get(n - 3));
        }
        if (n < 27) {
            return List.of("past", NAMES.get(n - 15));
        }
        return List.of(List.of("1", "left"), List.of("1", "right"), List.of("2", "left"), List.of("2", "right")).get(n - 27);
    }

    int shortest(int walkers, int state, int place, int year, int most, int k) {
        needState(state);
        needPlace(place);
        fit(in(year, 0, 200) && in(walkers, 1, (1 << w.walkers.size()) - 1) && in(most, 1, 3));
        List<Walk> walks = new ArrayList<>();
        List<Set<Integer>> start = new ArrayList<>();
        for (int p = 0; p < w.walkers.size(); p++) {
            if ((walkers >> p & 1) == 1) {
                walks.add(new Walk(p, year));
                start.add(Set.of(state));
            }
        }
        for (int many = 1; many <= most; many++) {
            List<Integer> row = search(walks, start, place, many, new HashMap<>());
            if (row != null) {
                return pick(row, k);
            }
        }
        return NONE;
    }

    List<Integer> search(List<Walk> walks, List<Set<Integer>> from, int place, int many, Map<String, Set<Integer>> known) {
        if (many == 0) {
            for (Set<Integer> states : from) {
                for (int s : states) {
                    if (spot(s) != place) {
                        return null;
                    }
                }
            }
            return new ArrayList<>();
        }
        for (int word = 0; word <= 30; word++) {
            List<Set<Integer>> next = new ArrayList<>();
            boolean some = true;
            for (int n = 0; n < walks.size() && some; n++) {
                Set<Integer> to = new TreeSet<>();
                for (int s : from.get(n)) {
                    String key = n + " " + word + " " + s;
                    if (!known.containsKey(key)) {
                        known.put(key, walks.get(n).word(listed(word), s));
                    }
                    to.addAll(known.get(key));
                }
                some = !to.isEmpty();
                next.add(to);
            }
            List<Integer> rest = some ? search(walks, next, place, many - 1, known) : null;
            if (rest != null) {
                rest.add(0, word);
                return rest;
            }
        }
        return null;
    }

    // ---- how they went

    int went(int walker, int telling, int state, int year, int place) {
        setOut(telling, walker, state);
        needPlace(place);
        fit(in(year, 0, 200));
        if (w.records.size() == 30) {
            return NONE;
        }
        w.records.add(new Went(walker, telling, state, year, place));
        return w.records.size();
    }

    int learned(int walker, int name) {
        needWalker(walker);
        need(in(name, 0, 11));
        int[] tongue = w.tongues.get(w.walkers.get(walker).tongue);
        int before = tongue[name];
        int set = 0;
        for (int kind = 0; kind < 12; kind++) {
            tongue[name] = 1 << kind;
            boolean fits = true;
            for (Went r : w.records) {
                if (r.walker == walker && fits) {
                    fits = new Walk(walker, r.year).ends(w.tellings.get(r.telling).sayings, r.state).contains(r.place);
                }
            }
            set |= fits ? 1 << kind : 0;
        }
        tongue[name] = before;
        return set;
    }

    int told(int teller, boolean all) {
        fit(in(teller, 0, 9));
        int many = 0;
        for (Went r : w.records) {
            Telling t = w.tellings.get(r.telling);
            many += t.teller == teller && (all || t.goal == r.place) ? 1 : 0;
        }
        return many;
    }

    int teller() {
        int best = NONE;
        for (int t = 9; t >= 0; t--) {
            boolean some = told(t, true) > 0;
            if (some && (best == NONE || told(t, false) * told(best, true) >= told(best, false) * told(t, true))) {
                best = t;
            }
        }
        return best;
    }

    // ---- trays, images

    void tray(int tray, int sort, int many) {
        need(in(tray, 0, 3));
        fit(in(sort, 0, 3) && in(many, 0, 12));
        trays[tray] = new long[many];
        sorts[tray] = sort;
    }

    long write(int tray, int place, long v) {
        need(in(tray, 0, 3));
        if (trays[tray] == null) {
            throw new IllegalStateException();
        }
        if (!in(place, 0, trays[tray].length - 1)) {
            throw new IndexOutOfBoundsException();
        }
        int sort = sorts[tray];
        trays[tray][place] = sort == 0 ? (byte) v : sort == 1 ? (short) v : sort == 2 ? (int) v : v;
        return trays[tray][place];
    }

    int say(int tray, int goal, int teller) {
        need(in(tray, 0, 3));
        needPlace(goal);
        if (trays[tray] == null) {
            throw new IllegalStateException();
        }
        List<List<List<String>>> sayings = new ArrayList<>();
        for (long n : trays[tray]) {
            fit(n >= 0 && n <= 30);
            sayings.add(List.of(listed((int) n)));
        }
        fit(sayings.size() <= 10 && in(teller, 0, 9));
        if (w.tellings.size() == 12) {
            return NONE;
        }
        w.tellings.add(new Telling(sayings, goal, teller));
        return w.tellings.size() - 1;
    }

    void image(int i) {
        need(in(i, 0, 2));
        images[i] = w.copy();
    }

    void restore(int i) {
        need(in(i, 0, 2));
        if (images[i] == null) {
            throw new IllegalStateException();
        }
        w = images[i].copy();
    }

    int count(int what) {
        int[] all = {w.places.size(), w.ways.size(), w.marks.size(), w.tongues.size(), w.walkers.size(), w.tellings.size(),
            w.records.size(), tape.length};
        return in(what, 0, 7) ? all[what] : NONE;
    }
}
