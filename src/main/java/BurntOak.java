import java.util.Arrays;
import java.util.NoSuchElementException;

/** Follows ways told at a door: the document's numbered promises say what each call answers. */
public final class BurntOak {
    public static final int NONE = -1;

    private static final int LAST_YEAR = 200;
    private static final int LAST_COORDINATE = 99;
    private static final int LONGEST_WAY = 99;
    private static final int WAY_KINDS = 3;
    private static final int PATH = 2;
    private static final int KINDS = 12;
    private static final int ALL_KINDS = (1 << KINDS) - 1;
    private static final int NAMES = 12;
    private static final int TELLERS = 10;
    private static final int MOST_PATIENCE = 20;
    private static final int LOOK_AHEAD = 3;
    private static final int WHOLE = 1_000_000;

    private static final int MOST_PLACES = 40;
    private static final int MOST_WAYS = 60;
    private static final int MOST_ARROWS = 2 * MOST_WAYS;
    private static final int MOST_STATES = 2 * MOST_ARROWS;
    private static final int MOST_MARKS = 40;
    private static final int MOST_TONGUES = 6;
    private static final int MOST_WALKERS = 8;
    private static final int MOST_TELLINGS = 12;
    private static final int MOST_SAYINGS = 10;
    private static final int MOST_WORDS = 4;
    private static final int TEXT_WORDS = MOST_SAYINGS * MOST_WORDS;
    private static final int MOST_RECORDS = 30;
    private static final int MOST_BYTES = 200;
    private static final int MOST_FOUND = 3;
    private static final int LISTED = 31;
    private static final int ALL_LISTED = (int) ((1L << LISTED) - 1);
    private static final int TRAYS = 4;
    private static final int MOST_ON_TRAY = 12;
    private static final int SORTS = 4;
    private static final int IMAGES = 3;

    // A WORD is one int: what it does, from bit 4 its number, from bit 9 its NAME. 0 is no WORD.
    private static final int ON_TIMES = 1;
    private static final int UNTIL = 2;
    private static final int PAST = 3;
    private static final int FAR = 4;
    private static final int SEE = 5;
    private static final int OVER = 6;
    private static final int LOOSE = 7;
    private static final int BACK = 8;
    private static final int LEFT = 9;
    private static final int RIGHT = 10;
    private static final int NTH_LEFT = 11;
    private static final int NTH_RIGHT = 12;
    private static final int NO_NAME = 15;

    private final Land land = new Land();
    private final Folk folk = new Folk();
    private final Book book = new Book();
    private final YearMap map = new YearMap(land);
    private final Walk walk = new Walk(map, folk, book);
    private final Odds odds = new Odds(walk);
    private final Finder finder = new Finder(walk);
    private final Reader reader = new Reader();
    private final Tray[] trays = new Tray[TRAYS];
    private final Land[] lands = new Land[IMAGES];
    private final Folk[] folks = new Folk[IMAGES];
    private final Book[] books = new Book[IMAGES];

    public BurntOak() {
        for (int t = 0; t < TRAYS; t++) {
            trays[t] = new Tray();
        }
    }

    // ---- the ground

    public int place(int x, int y) throws IllegalArgumentException {
        if (x < 0 || x > LAST_COORDINATE || y < 0 || y > LAST_COORDINATE || land.isTaken(x, y)) {
            throw new IllegalArgumentException();
        }
        return land.addPlace(x, y);
    }

    public int way(int a, int b, int kind, int length, int from, int to)
            throws NoSuchElementException, IllegalArgumentException {
        needPlace(a);
        needPlace(b);
        if (a == b || kind < 0 || kind >= WAY_KINDS || length < 1 || length > LONGEST_WAY) {
            throw new IllegalArgumentException();
        }
        needYears(from, to);
        if (land.isJoined(a, b, from, to)) {
            throw new IllegalArgumentException();
        }
        map.forget();
        return land.addWay(a, b, kind, length, from, to);
    }

    public int mark(int place, int kind, boolean tall, int from, int to)
            throws NoSuchElementException, IllegalArgumentException {
        needPlace(place);
        if (kind < 0 || kind >= KINDS) {
            throw new IllegalArgumentException();
        }
        needYears(from, to);
        map.forget();
        return land.addMark(place, kind, tall, from, to);
    }

    public int ends(boolean way, int which, int year) throws NoSuchElementException, IllegalArgumentException {
        if (which < 0 || which >= (way ? land.ways : land.marks)) {
            throw new NoSuchElementException();
        }
        int from = way ? land.wayFrom[which] : land.markFrom[which];
        int[] to = way ? land.wayTo : land.markTo;
        int before = to[which];
        if (year < from || year > before) {
            throw new IllegalArgumentException();
        }
        to[which] = year;
        map.forget();
        return before;
    }

    public int state(int state, int what) throws NoSuchElementException, IllegalArgumentException {
        needState(state);
        switch (what) {
            case 0:
                return land.spots[state];
            case 1:
                return (state & 1) == 0 ? 1 : 0;
            case 2:
                return state >> 2;
            default:
                throw new IllegalArgumentException();
        }
    }

    public int out(int state, int side, int year) throws NoSuchElementException, IllegalArgumentException {
        needState(state);
        if (side < 0 || side > YearMap.NEITHER) {
            throw new IllegalArgumentException();
        }
        needYear(year);
        map.prepare(year);
        int row = map.look(state) + 2 * side;
        return Long.bitCount(map.rows[row]) + Long.bitCount(map.rows[row + 1]);
    }

    public int on(int state, int year, int i) throws NoSuchElementException, IllegalArgumentException {
        needState(state);
        needYear(year);
        map.prepare(year);
        int row = map.look(state) + YearMap.ON;
        walk.now.clear();
        walk.now.addArrows(map.rows[row], map.rows[row + 1]);
        return i == NONE ? walk.now.size() : walk.now.nth(i);
    }

    // ---- tongues, walkers

    public int tongue() {
        return folk.addTongue();
    }

    public int means(int tongue, int name, int kinds) throws NoSuchElementException, IllegalArgumentException {
        needTongue(tongue);
        needName(name);
        needKinds(kinds);
        int before = folk.meanings[tongue * NAMES + name];
        folk.meanings[tongue * NAMES + name] = kinds;
        return before;
    }

    public int walker(int tongue, int notices, boolean turns, boolean paths, int patience)
            throws NoSuchElementException, IllegalArgumentException {
        needTongue(tongue);
        needKinds(notices);
        if (patience < 1 || patience > MOST_PATIENCE) {
            throw new IllegalArgumentException();
        }
        return folk.addWalker(tongue, notices, turns, paths, patience);
    }

    public boolean stands(int walker, int name, int place, int year, boolean seen)
            throws NoSuchElementException, IllegalArgumentException {
        needWalker(walker);
        needName(name);
        needPlace(place);
        needYear(year);
        setOut(walker, year);
        return isIn(seen ? walk.seenPlaces(name) : walk.placesWith(name), place);
    }

    public int worth(int mark, int walkers, int year, int what)
            throws NoSuchElementException, IllegalArgumentException {
        if (mark < 0 || mark >= land.marks) {
            throw new NoSuchElementException();
        }
        needWalkers(walkers);
        needYear(year);
        if (what < 0 || what > 1) {
            throw new IllegalArgumentException();
        }
        if (year < land.markFrom[mark] || year > land.markTo[mark]) {
            return NONE;
        }
        int kind = land.markKind[mark];
        return what == 0 ? folk.howManyKnow(kind, walkers) : land.marksOf(kind, year) - 1;
    }

    // ---- tellings

    public int feed(int a, int b, int c, int d, int e) {
        if (reader.held + 20 > MOST_BYTES) {
            return NONE;
        }
        reader.put(a);
        reader.put(b);
        reader.put(c);
        reader.put(d);
        reader.put(e);
        return reader.held;
    }

    public int telling(int n, int goal, int teller) throws NoSuchElementException, IllegalArgumentException {
        needPlace(goal);
        if (n < 0 || n > reader.held) {
            throw new IllegalArgumentException();
        }
        needTeller(teller);
        if (book.tellings == MOST_TELLINGS) {
            return NONE;
        }
        int fault = reader.read(n);
        return fault == 0 ? book.addTelling(reader.words, reader.many, goal, teller) : -10 - fault;
    }

    public int fault(int what) {
        switch (what) {
            case 0:
                return reader.fault;
            case 1:
                return reader.faultAt;
            default:
                return NONE;
        }
    }

    public int sayings(int telling) throws NoSuchElementException {
        needTelling(telling);
        return book.sayings[telling];
    }

    public int leads(int telling, int walker, int state, int year, int k, int i)
            throws NoSuchElementException, IllegalArgumentException {
        needTold(telling, walker, state, year);
        if (k < 0 || k > book.sayings[telling]) {
            throw new IllegalArgumentException();
        }
        setOut(walker, year);
        walk.follow(telling, state, k);
        return i == NONE ? walk.now.size() : walk.now.nth(i);
    }

    public int holds(int telling, int walker, int state, int year)
            throws NoSuchElementException, IllegalArgumentException {
        needTold(telling, walker, state, year);
        setOut(walker, year);
        return walk.follow(telling, state, book.sayings[telling]);
    }

    public int end(int telling, int walker, int state, int year, int i)
            throws NoSuchElementException, IllegalArgumentException {
        needTold(telling, walker, state, year);
        setOut(walker, year);
        long places = walk.lastPlaces(telling, state);
        return i == NONE ? Long.bitCount(places) : nthOf(places, i);
    }

    public boolean right(int telling, int walker, int state, int year)
            throws NoSuchElementException, IllegalArgumentException {
        needTold(telling, walker, state, year);
        setOut(walker, year);
        return walk.getsThere(telling, state);
    }

    public int odds(int telling, int walker, int state, int year, int place)
            throws NoSuchElementException, IllegalArgumentException {
        needTelling(telling);
        needWalker(walker);
        needState(state);
        needPlace(place);
        needYear(year);
        setOut(walker, year);
        odds.start(state);
        odds.goOn(telling, 0);
        return odds.partsAt(place);
    }

    public int parts(int telling, int walker, int state, int year)
            throws NoSuchElementException, IllegalArgumentException {
        needTold(telling, walker, state, year);
        setOut(walker, year);
        long places = walk.lastPlaces(telling, state);
        long goal = 1L << book.goals[telling];
        for (int name = 0; name < NAMES; name++) {
            if ((places & walk.seenPlaces(name)) == goal) {
                return name;
            }
        }
        return NONE;
    }

    public int hangs(int telling, int walker, int place, int year, boolean right)
            throws NoSuchElementException, IllegalArgumentException {
        needTelling(telling);
        needWalker(walker);
        needPlace(place);
        needYear(year);
        setOut(walker, year);
        int many = 0;
        for (int state = 1; state < 4 * land.ways; state += 2) {
            if (land.spots[state] == place && isIn(map.ways, state >> 2)
                    && walk.getsThere(telling, state) == right) {
                many++;
            }
        }
        return many;
    }

    public int years(int telling, int walker, int state, int what)
            throws NoSuchElementException, IllegalArgumentException {
        needTelling(telling);
        needWalker(walker);
        needState(state);
        if (what < 0 || what > 2) {
            throw new IllegalArgumentException();
        }
        int many = 0;
        int first = NONE;
        int last = NONE;
        boolean right = false;
        for (int year = 0; year <= LAST_YEAR; year++) {
            // Within a stretch of years nothing changes, so neither does the answer.
            if (year == 0 || !map.isPreparedFor(year)) {
                setOut(walker, year);
                right = walk.getsThere(telling, state);
            }
            if (right) {
                many++;
                first = first == NONE ? year : first;
                last = year;
            }
        }
        return what == 0 ? many : what == 1 ? first : last;
    }

    public int two(int one, int from, int other, int at, int walker, int year, int what)
            throws NoSuchElementException, IllegalArgumentException {
        needTelling(one);
        needState(from);
        needTold(other, walker, at, year);
        if (what < 0 || what > 1) {
            throw new IllegalArgumentException();
        }
        setOut(walker, year);
        if (what == 0) {
            return Long.bitCount(walk.lastPlaces(one, from) & walk.lastPlaces(other, at));
        }
        return odds.meet(one, from, other, at);
    }

    public int ask(int telling, int walker, int teller, int state, int year, int price, boolean loss)
            throws NoSuchElementException, IllegalArgumentException {
        needWalker(teller);
        needTold(telling, walker, state, year);
        if (price < 0 || price > WHOLE) {
            throw new IllegalArgumentException();
        }
        setOut(teller, year);
        setOut(walker, year);
        odds.start(state);
        odds.goOn(telling, 0);
        int least = WHOLE - odds.partsAt(book.goals[telling]);
        int best = 0;
        for (int k = 1; k < book.sayings[telling]; k++) {
            int asked = lossBehind(k, telling, walker, teller, state);
            if (asked != NONE && asked + price < least) {
                least = asked + price;
                best = k;
            }
        }
        return loss ? least : best;
    }

    /** LOSS, without the PRICE, of one who asks behind k SAYINGS; NONE if they lead the TELLER nowhere. */
    private int lossBehind(int k, int telling, int walker, int teller, int state) {
        walk.become(teller);
        walk.follow(telling, state, k);
        if (walk.now.isEmpty()) {
            return NONE;
        }
        walk.become(walker);
        odds.spread(walk.now);
        odds.goOn(telling, k);
        return WHOLE - odds.partsAt(book.goals[telling]);
    }

    public int shortest(int walkers, int state, int place, int year, int most, int k)
            throws NoSuchElementException, IllegalArgumentException {
        needState(state);
        needPlace(place);
        needYear(year);
        needWalkers(walkers);
        if (walkers == 0 || most < 1 || most > MOST_FOUND) {
            throw new IllegalArgumentException();
        }
        for (int walker = 0; walker < folk.walkers; walker++) {
            if (isIn(walkers, walker)) {
                setOut(walker, year);
            }
        }
        finder.begin(walkers, state, place);
        for (int words = 1; words <= most; words++) {
            if (finder.search(0, words)) {
                return k == NONE ? words : k >= 0 && k < words ? finder.found[k] : NONE;
            }
        }
        return NONE;
    }

    // ---- how they went

    public int went(int walker, int telling, int state, int year, int place)
            throws NoSuchElementException, IllegalArgumentException {
        needPlace(place);
        needTold(telling, walker, state, year);
        return book.addRecord(walker, telling, state, year, place);
    }

    public int learned(int walker, int name) throws NoSuchElementException {
        needWalker(walker);
        needName(name);
        int kinds = ALL_KINDS;
        for (int record = 0; record < book.records; record++) {
            if (book.recordWalker[record] == walker) {
                setOut(walker, book.recordYear[record]);
                kinds = kindsThatFit(record, name, kinds);
            }
        }
        return kinds;
    }

    /** Those of the KINDS with which, as all that the NAME means, a RECORD's PLACE is among the ENDS. */
    private int kindsThatFit(int record, int name, int kinds) {
        int telling = book.recordTelling[record];
        int fitting = 0;
        for (int kind = 0; kind < KINDS; kind++) {
            if (isIn(kinds, kind)) {
                walk.suppose(name, 1 << kind);
                walk.follow(telling, book.recordState[record], book.sayings[telling]);
                if (isIn(map.placesOf(walk.now), book.recordPlace[record])) {
                    fitting |= 1 << kind;
                }
            }
        }
        return fitting;
    }

    public int teller() {
        int best = NONE;
        int bestGood = 0;
        int bestAll = 1;
        for (int teller = 0; teller < TELLERS; teller++) {
            int all = book.recordsOf(teller, false);
            int good = book.recordsOf(teller, true);
            if (all > 0 && (best == NONE || good * bestAll > bestGood * all)) {
                best = teller;
                bestGood = good;
                bestAll = all;
            }
        }
        return best;
    }

    public int told(int teller, boolean all) throws IllegalArgumentException {
        needTeller(teller);
        return book.recordsOf(teller, !all);
    }

    // ---- trays, images

    public void tray(int tray, int sort, int many) throws NoSuchElementException, IllegalArgumentException {
        needTray(tray);
        if (sort < 0 || sort >= SORTS || many < 0 || many > MOST_ON_TRAY) {
            throw new IllegalArgumentException();
        }
        trays[tray].lay(sort, many);
    }

    public long write(int tray, int place, long v)
            throws NoSuchElementException, IllegalStateException, IndexOutOfBoundsException {
        needTray(tray);
        needLaid(tray);
        if (place < 0 || place >= trays[tray].many) {
            throw new IndexOutOfBoundsException();
        }
        trays[tray].row[place] = trays[tray].cut(v);
        return trays[tray].row[place];
    }

    public int say(int tray, int goal, int teller)
            throws NoSuchElementException, IllegalStateException, IllegalArgumentException {
        needTray(tray);
        needPlace(goal);
        needLaid(tray);
        if (!trays[tray].isSayable()) {
            throw new IllegalArgumentException();
        }
        needTeller(teller);
        return book.addListed(trays[tray], goal, teller);
    }

    public void image(int i) throws NoSuchElementException {
        needImage(i);
        if (lands[i] == null || folks[i] == null || books[i] == null) {
            lands[i] = new Land();
            folks[i] = new Folk();
            books[i] = new Book();
        }
        lands[i].take(land);
        folks[i].take(folk);
        books[i].take(book);
    }

    public void restore(int i) throws NoSuchElementException, IllegalStateException {
        needImage(i);
        if (lands[i] == null || folks[i] == null || books[i] == null) {
            throw new IllegalStateException();
        }
        land.take(lands[i]);
        folk.take(folks[i]);
        book.take(books[i]);
        map.forget();
    }

    public int count(int what) {
        switch (what) {
            case 0:
                return land.places;
            case 1:
                return land.ways;
            case 2:
                return land.marks;
            case 3:
                return folk.tongues;
            case 4:
                return folk.walkers;
            case 5:
                return book.tellings;
            case 6:
                return book.records;
            case 7:
                return reader.held;
            default:
                return NONE;
        }
    }

    // ---- what calls need

    private void needPlace(int place) {
        if (place < 0 || place >= land.places) {
            throw new NoSuchElementException();
        }
    }

    private void needState(int state) {
        if (state < 0 || state >= 4 * land.ways) {
            throw new NoSuchElementException();
        }
    }

    private void needTongue(int tongue) {
        if (tongue < 0 || tongue >= folk.tongues) {
            throw new NoSuchElementException();
        }
    }

    private void needName(int name) {
        if (name < 0 || name >= NAMES) {
            throw new NoSuchElementException();
        }
    }

    private void needWalker(int walker) {
        if (walker < 0 || walker >= folk.walkers) {
            throw new NoSuchElementException();
        }
    }

    private void needTelling(int telling) {
        if (telling < 0 || telling >= book.tellings) {
            throw new NoSuchElementException();
        }
    }

    private void needTray(int tray) {
        if (tray < 0 || tray >= TRAYS) {
            throw new NoSuchElementException();
        }
    }

    private void needLaid(int tray) {
        if (trays[tray].missing) {
            throw new IllegalStateException();
        }
    }

    private void needImage(int i) {
        if (i < 0 || i >= IMAGES) {
            throw new NoSuchElementException();
        }
    }

    private void needYear(int year) {
        if (year < 0 || year > LAST_YEAR) {
            throw new IllegalArgumentException();
        }
    }

    private void needYears(int from, int to) {
        if (from < 0 || to > LAST_YEAR || from > to) {
            throw new IllegalArgumentException();
        }
    }

    private void needKinds(int kinds) {
        if (kinds < 0 || kinds > ALL_KINDS) {
            throw new IllegalArgumentException();
        }
    }

    private void needWalkers(int walkers) {
        if (walkers < 0 || walkers >> folk.walkers != 0) {
            throw new IllegalArgumentException();
        }
    }

    private void needTeller(int teller) {
        if (teller < 0 || teller >= TELLERS) {
            throw new IllegalArgumentException();
        }
    }

    private void needTold(int telling, int walker, int state, int year) {
        needTelling(telling);
        needWalker(walker);
        needState(state);
        needYear(year);
    }

    /** From here on it is this WALKER who walks, in this YEAR. */
    private void setOut(int walker, int year) {
        map.prepare(year);
        walk.learnGround(walker);
        walk.become(walker);
    }

    // ---- sets

    private static boolean isIn(long set, int which) {
        return (set >> which & 1L) != 0;
    }

    /** The number of the lowest bit of a set that has one. */
    private static int lowest(long set) {
        return Long.bitCount((set & -set) - 1);
    }

    private static int nthOf(long set, int i) {
        int many = Long.bitCount(set);
        if (i < 0 || i >= many) {
            return NONE;
        }
        long rest = set;
        for (int skipped = 0; skipped < i; skipped++) {
            rest &= rest - 1;
        }
        return lowest(rest);
    }

    private static int wordOf(int does, int number, int name) {
        return does | number << 4 | name << 9;
    }

    /** The WORD that SHORTEST and trays know by a number from 0 to 30. */
    private static int listedWord(int number) {
        if (number == 0) {
            return wordOf(ON_TIMES, 1, NO_NAME);
        }
        if (number <= 2) {
            return wordOf(number == 1 ? LEFT : RIGHT, 0, NO_NAME);
        }
        if (number <= 14) {
            return wordOf(UNTIL, 0, number - 3);
        }
        if (number <= 26) {
            return wordOf(PAST, 0, number - 15);
        }
        return wordOf((number & 1) != 0 ? NTH_LEFT : NTH_RIGHT, number <= 28 ? 1 : 2, NO_NAME);
    }

    /** PLACES, WAYS and MARKS as they were told. */
    private static final class Land {
        int places;
        final int[] x = new int[MOST_PLACES];
        final int[] y = new int[MOST_PLACES];
        int ways;
        final int[] wayKind = new int[MOST_WAYS];
        final int[] wayLength = new int[MOST_WAYS];
        final int[] wayFrom = new int[MOST_WAYS];
        final int[] wayTo = new int[MOST_WAYS];
        /** PLACES of STATES, and by ARROWS how far these go by x and by y. */
        final int[] spots = new int[MOST_STATES];
        final int[] dx = new int[MOST_ARROWS];
        final int[] dy = new int[MOST_ARROWS];
        int marks;
        final int[] markPlace = new int[MOST_MARKS];
        final int[] markKind = new int[MOST_MARKS];
        final boolean[] markTall = new boolean[MOST_MARKS];
        final int[] markFrom = new int[MOST_MARKS];
        final int[] markTo = new int[MOST_MARKS];

        boolean isTaken(int atX, int atY) {
            for (int p = 0; p < places; p++) {
                if (x[p] == atX && y[p] == atY) {
                    return true;
                }
            }
            return false;
        }

        int addPlace(int atX, int atY) {
            if (places >= MOST_PLACES) {
                return NONE;
            }
            x[places] = atX;
            y[places] = atY;
            return places++;
        }

        /** Whether there is a WAY between both in one of these YEARS. */
        boolean isJoined(int a, int b, int from, int to) {
            for (int w = 0; w < ways; w++) {
                int first = spots[4 * w + 1];
                int second = spots[4 * w];
                boolean same = first == a && second == b || first == b && second == a;
                if (same && wayFrom[w] <= to && from <= wayTo[w]) {
                    return true;
                }
            }
            return false;
        }

        int addWay(int a, int b, int kind, int length, int from, int to) {
            if (ways >= MOST_WAYS) {
                return NONE;
            }
            wayKind[ways] = kind;
            wayLength[ways] = length;
            wayFrom[ways] = from;
            wayTo[ways] = to;
            spots[4 * ways] = b;
            spots[4 * ways + 1] = a;
            spots[4 * ways + 2] = a;
            spots[4 * ways + 3] = b;
            dx[2 * ways] = x[b] - x[a];
            dy[2 * ways] = y[b] - y[a];
            dx[2 * ways + 1] = x[a] - x[b];
            dy[2 * ways + 1] = y[a] - y[b];
            return ways++;
        }

        int addMark(int place, int kind, boolean tall, int from, int to) {
            if (marks >= MOST_MARKS) {
                return NONE;
            }
            markPlace[marks] = place;
            markKind[marks] = kind;
            markTall[marks] = tall;
            markFrom[marks] = from;
            markTo[marks] = to;
            return marks++;
        }

        int marksOf(int kind, int year) {
            int many = 0;
            for (int m = 0; m < marks; m++) {
                if (markKind[m] == kind && markFrom[m] <= year && year <= markTo[m]) {
                    many++;
                }
            }
            return many;
        }

        void take(Land other) {
            places = other.places;
            System.arraycopy(other.x, 0, x, 0, MOST_PLACES);
            System.arraycopy(other.y, 0, y, 0, MOST_PLACES);
            ways = other.ways;
            System.arraycopy(other.wayKind, 0, wayKind, 0, MOST_WAYS);
            System.arraycopy(other.wayLength, 0, wayLength, 0, MOST_WAYS);
            System.arraycopy(other.wayFrom, 0, wayFrom, 0, MOST_WAYS);
            System.arraycopy(other.wayTo, 0, wayTo, 0, MOST_WAYS);
            System.arraycopy(other.spots, 0, spots, 0, MOST_STATES);
            System.arraycopy(other.dx, 0, dx, 0, MOST_ARROWS);
            System.arraycopy(other.dy, 0, dy, 0, MOST_ARROWS);
            marks = other.marks;
            System.arraycopy(other.markPlace, 0, markPlace, 0, MOST_MARKS);
            System.arraycopy(other.markKind, 0, markKind, 0, MOST_MARKS);
            System.arraycopy(other.markFrom, 0, markFrom, 0, MOST_MARKS);
            System.arraycopy(other.markTo, 0, markTo, 0, MOST_MARKS);
            for (int m = 0; m < MOST_MARKS; m++) {
                markTall[m] = other.markTall[m];
            }
        }
    }

    /** TONGUES and WALKERS. */
    private static final class Folk {
        int tongues;
        final int[] meanings = new int[MOST_TONGUES * NAMES];
        int walkers;
        final int[] tongueOf = new int[MOST_WALKERS];
        final int[] notices = new int[MOST_WALKERS];
        final boolean[] turns = new boolean[MOST_WALKERS];
        final boolean[] countsPaths = new boolean[MOST_WALKERS];
        final int[] patience = new int[MOST_WALKERS];

        int addTongue() {
            if (tongues >= MOST_TONGUES) {
                return NONE;
            }
            for (int name = 0; name < NAMES; name++) {
                meanings[tongues * NAMES + name] = 1 << name;
            }
            return tongues++;
        }

        int addWalker(int tongue, int noticed, boolean turned, boolean onPaths, int most) {
            if (walkers >= MOST_WALKERS) {
                return NONE;
            }
            tongueOf[walkers] = tongue;
            notices[walkers] = noticed;
            turns[walkers] = turned;
            countsPaths[walkers] = onPaths;
            patience[walkers] = most;
            return walkers++;
        }

        /** The KINDS that a NAME means to a WALKER, of those that he notices. */
        int kindsOf(int walker, int name) {
            return meanings[tongueOf[walker] * NAMES + name] & notices[walker];
        }

        int howManyKnow(int kind, int set) {
            int many = 0;
            for (int walker = 0; walker < walkers; walker++) {
                int named = 0;
                for (int name = 0; name < NAMES; name++) {
                    named |= kindsOf(walker, name);
                }
                if (isIn(set, walker) && isIn(named, kind)) {
                    many++;
                }
            }
            return many;
        }

        void take(Folk other) {
            tongues = other.tongues;
            System.arraycopy(other.meanings, 0, meanings, 0, MOST_TONGUES * NAMES);
            walkers = other.walkers;
            System.arraycopy(other.tongueOf, 0, tongueOf, 0, MOST_WALKERS);
            System.arraycopy(other.notices, 0, notices, 0, MOST_WALKERS);
            System.arraycopy(other.patience, 0, patience, 0, MOST_WALKERS);
            for (int walker = 0; walker < MOST_WALKERS; walker++) {
                turns[walker] = other.turns[walker];
                countsPaths[walker] = other.countsPaths[walker];
            }
        }
    }

    /** TELLINGS and RECORDS. */
    private static final class Book {
        int tellings;
        final int[] goals = new int[MOST_TELLINGS];
        final int[] tellers = new int[MOST_TELLINGS];
        final int[] sayings = new int[MOST_TELLINGS];
        /** By TELLING, by SAYING, up to four WORDS; behind the last of a SAYING 0s. */
        final int[] words = new int[MOST_TELLINGS * TEXT_WORDS];
        int records;
        final int[] recordWalker = new int[MOST_RECORDS];
        final int[] recordTelling = new int[MOST_RECORDS];
        final int[] recordState = new int[MOST_RECORDS];
        final int[] recordYear = new int[MOST_RECORDS];
        final int[] recordPlace = new int[MOST_RECORDS];

        int addTelling(int[] text, int many, int goal, int teller) {
            if (tellings >= MOST_TELLINGS) {
                return NONE;
            }
            System.arraycopy(text, 0, words, tellings * TEXT_WORDS, TEXT_WORDS);
            goals[tellings] = goal;
            tellers[tellings] = teller;
            sayings[tellings] = many;
            return tellings++;
        }

        int addListed(Tray tray, int goal, int teller) {
            if (tellings >= MOST_TELLINGS) {
                return NONE;
            }
            int base = tellings * TEXT_WORDS;
            Arrays.fill(words, base, base + TEXT_WORDS, 0);
            for (int n = 0; n < tray.many && n < MOST_SAYINGS; n++) {
                words[base + n * MOST_WORDS] = listedWord((int) tray.row[n]);
            }
            goals[tellings] = goal;
            tellers[tellings] = teller;
            sayings[tellings] = tray.many;
            return tellings++;
        }

        int addRecord(int walker, int telling, int state, int year, int place) {
            if (records >= MOST_RECORDS) {
                return NONE;
            }
            recordWalker[records] = walker;
            recordTelling[records] = telling;
            recordState[records] = state;
            recordYear[records] = year;
            recordPlace[records] = place;
            records++;
            return records;
        }

        int recordsOf(int teller, boolean atGoal) {
            int many = 0;
            for (int r = 0; r < records; r++) {
                int telling = recordTelling[r];
                if (tellers[telling] == teller && (!atGoal || recordPlace[r] == goals[telling])) {
                    many++;
                }
            }
            return many;
        }

        void take(Book other) {
            tellings = other.tellings;
            System.arraycopy(other.goals, 0, goals, 0, MOST_TELLINGS);
            System.arraycopy(other.tellers, 0, tellers, 0, MOST_TELLINGS);
            System.arraycopy(other.sayings, 0, sayings, 0, MOST_TELLINGS);
            System.arraycopy(other.words, 0, words, 0, MOST_TELLINGS * TEXT_WORDS);
            records = other.records;
            System.arraycopy(other.recordWalker, 0, recordWalker, 0, MOST_RECORDS);
            System.arraycopy(other.recordTelling, 0, recordTelling, 0, MOST_RECORDS);
            System.arraycopy(other.recordState, 0, recordState, 0, MOST_RECORDS);
            System.arraycopy(other.recordYear, 0, recordYear, 0, MOST_RECORDS);
            System.arraycopy(other.recordPlace, 0, recordPlace, 0, MOST_RECORDS);
        }
    }

    /** The ground as it is in a stretch of years in which nothing begins or ends. */
    private static final class YearMap {
        static final int NEITHER = 2;
        /** Where in a row ARROWS to the left, to the right, to neither, and ON begin: two longs each. */
        static final int ON = 6;
        private static final int ROW = 8;

        final Land land;
        private int first = 0;
        private int last = NONE;
        private boolean stale = true;
        long ways;
        final long[] paths = new long[2];
        private final long[] outs = new long[2 * MOST_PLACES];
        private final long[] neighbours = new long[MOST_PLACES];
        private final long[] kindPlaces = new long[KINDS];
        private final long[] tallPlaces = new long[KINDS];
        private final boolean[] known = new boolean[MOST_STATES];
        final long[] rows = new long[MOST_STATES * ROW];

        YearMap(Land land) {
            this.land = land;
        }

        /** To be called when the land has changed. */
        void forget() {
            first = 0;
            last = NONE;
            stale = true;
        }

        boolean isPreparedFor(int year) {
            return first <= year && year <= last;
        }

        void prepare(int year) {
            if (isPreparedFor(year)) {
                return;
            }
            first = 0;
            last = LAST_YEAR;
            long there = 0;
            for (int w = 0; w < land.ways; w++) {
                if (isThere(land.wayFrom[w], land.wayTo[w], year)) {
                    there |= 1L << w;
                }
            }
            // Where only marks differ, what was found out about ways out holds on.
            if (stale || there != ways) {
                layWays(there);
            }
            Arrays.fill(kindPlaces, 0L);
            Arrays.fill(tallPlaces, 0L);
            for (int m = 0; m < land.marks; m++) {
                if (isThere(land.markFrom[m], land.markTo[m], year)) {
                    addMark(land.markKind[m], 1L << land.markPlace[m], land.markTall[m]);
                }
            }
        }

        private void layWays(long there) {
            stale = false;
            ways = there;
            Arrays.fill(paths, 0L);
            Arrays.fill(outs, 0L);
            Arrays.fill(neighbours, 0L);
            for (int s = 0; s < MOST_STATES; s++) {
                known[s] = false;
            }
            for (int w = 0; w < land.ways; w++) {
                if (isIn(there, w)) {
                    addWay(w);
                }
            }
        }

        /** Whether it is there in the year; the stretch shrinks to the years of which the same is true. */
        private boolean isThere(int from, int to, int year) {
            if (year < from) {
                last = Math.min(last, from - 1);
                return false;
            }
            if (year > to) {
                first = Math.max(first, to + 1);
                return false;
            }
            first = Math.max(first, from);
            last = Math.min(last, to);
            return true;
        }

        private void addWay(int w) {
            int a = land.spots[4 * w + 1];
            int b = land.spots[4 * w];
            neighbours[a] |= 1L << b;
            neighbours[b] |= 1L << a;
            int half = 2 * w >> 6;
            long there = 1L << (2 * w & 63);
            long back = there << 1;
            outs[2 * a + half] |= there;
            outs[2 * b + half] |= back;
            if (land.wayKind[w] == PATH) {
                paths[half] |= there | back;
            }
        }

        private void addMark(int kind, long at, boolean tall) {
            kindPlaces[kind] |= at;
            if (tall) {
                tallPlaces[kind] |= at;
            }
        }

        long placesWith(int kinds) {
            long places = 0;
            for (int kind = 0; kind < KINDS; kind++) {
                if (isIn(kinds, kind)) {
                    places |= kindPlaces[kind];
                }
            }
            return places;
        }

        long seenPlaces(int kinds) {
            long tall = 0;
            for (int kind = 0; kind < KINDS; kind++) {
                if (isIn(kinds, kind)) {
                    tall |= tallPlaces[kind];
                }
            }
            long places = placesWith(kinds);
            for (int p = 0; p < land.places; p++) {
                if ((neighbours[p] & tall) != 0) {
                    places |= 1L << p;
                }
            }
            return places;
        }

        /** Where in rows the WAYS OUT of a STATE lie, by sides, and those of ON. */
        int look(int state) {
            int row = state * ROW;
            if (known[state]) {
                return row;
            }
            known[state] = true;
            Arrays.fill(rows, row, row + ROW, 0L);
            int arrow = state >> 1;
            int back = (state & 1) == 0 ? arrow ^ 1 : NONE;
            int fx = land.dx[arrow];
            int fy = land.dy[arrow];
            long most = 0;
            long mostBy = 0;
            for (int half = 0; half < 2; half++) {
                long bits = outs[2 * land.spots[state] + half];
                for (int rest = Long.bitCount(bits); rest > 0; rest--) {
                    long bit = bits & -bits;
                    bits ^= bit;
                    int other = 64 * half + Long.bitCount(bit - 1);
                    if (other == back) {
                        continue;
                    }
                    int vx = land.dx[other];
                    int vy = land.dy[other];
                    int cross = fx * vy - fy * vx;
                    int side = cross > 0 ? 0 : cross < 0 ? 1 : NEITHER;
                    rows[row + 2 * side + half] |= bit;
                    long dot = fx * vx + fy * vy;
                    long straight = dot * Math.abs(dot);
                    long by = vx * vx + vy * vy;
                    // By cross products, so that like ones stay like; ahead of the first mostBy is 0.
                    long more = straight * mostBy - most * by;
                    if (mostBy == 0 || more > 0) {
                        most = straight;
                        mostBy = by;
                        rows[row + ON] = 0;
                        rows[row + ON + 1] = 0;
                    }
                    if (more >= 0) {
                        rows[row + ON + half] |= bit;
                    }
                }
            }
            return row;
        }

        long placesOf(States states) {
            long places = 0;
            for (int q = 0; q < States.QUARTERS; q++) {
                long bits = states.quarters[q];
                for (int rest = Long.bitCount(bits); rest > 0; rest--) {
                    places |= 1L << land.spots[States.stateOf(q, lowest(bits))];
                    bits &= bits - 1;
                }
            }
            return places;
        }
    }

    /** A set of STATES: by ARROWS, first those along which one has come, then those at whose beginning one is. */
    private static final class States {
        static final int QUARTERS = 4;
        final long[] quarters = new long[QUARTERS];

        static int stateOf(int quarter, int bit) {
            return 2 * (64 * (quarter & 1) + bit) + (quarter >> 1);
        }

        void clear() {
            Arrays.fill(quarters, 0L);
        }

        void add(int state) {
            int arrow = state >> 1;
            quarters[2 * (state & 1) + (arrow >> 6)] |= 1L << (arrow & 63);
        }

        void addArrows(long low, long high) {
            quarters[0] |= low;
            quarters[1] |= high;
        }

        boolean isEmpty() {
            return (quarters[0] | quarters[1] | quarters[2] | quarters[3]) == 0;
        }

        int size() {
            return Long.bitCount(quarters[0]) + Long.bitCount(quarters[1])
                    + Long.bitCount(quarters[2]) + Long.bitCount(quarters[3]);
        }

        /** Writes them by their numbers: how many they are. */
        int list(int[] to) {
            int many = 0;
            for (int half = 0; half < 2; half++) {
                long bits = quarters[half] | quarters[half + 2];
                for (int rest = Long.bitCount(bits); rest > 0; rest--) {
                    int bit = lowest(bits);
                    bits &= bits - 1;
                    if (isIn(quarters[half], bit)) {
                        to[many++] = stateOf(half, bit);
                    }
                    if (isIn(quarters[half + 2], bit)) {
                        to[many++] = stateOf(half + 2, bit);
                    }
                }
            }
            return many;
        }

        int nth(int i) {
            if (i < 0) {
                return NONE;
            }
            int ahead = 0;
            for (int arrow = 0; arrow < MOST_ARROWS; arrow++) {
                for (int half = 0; half < 2; half++) {
                    if (isIn(quarters[2 * half + (arrow >> 6)], arrow & 63)) {
                        if (ahead == i) {
                            return 2 * arrow + half;
                        }
                        ahead++;
                    }
                }
            }
            return NONE;
        }
    }

    /**
     * Goes ON step by step on all ways at once. Each ARROW come along bears tags: a set of what has been
     * counted so far (LENGTHS or PLACES) on the ways that have come together there; without tags it stops.
     */
    private static final class Steps {
        private final YearMap map;
        int many;
        int[] arrows = new int[MOST_ARROWS];
        long[] tags = new long[MOST_ARROWS];
        private int nextMany;
        private int[] nextArrows = new int[MOST_ARROWS];
        private long[] nextTags = new long[MOST_ARROWS];
        private int[] starts = new int[1];
        private int start;
        private int startsEnd;
        private long lengths;

        Steps(YearMap map) {
            this.map = map;
        }

        /** From some STATES of a row on; where lengths isn't 0, tags are LENGTHS gone, and only these are followed. */
        void begin(int[] states, int first, int end, long lengthsFollowed) {
            clearNow();
            starts = states;
            start = first;
            startsEnd = end;
            lengths = lengthsFollowed;
        }

        /** ON once more: whether there are any. */
        boolean go() {
            for (int n = start; n < startsEnd; n++) {
                carry(map.look(starts[n]), 1L);
            }
            startsEnd = 0;
            for (int n = 0; n < many; n++) {
                carry(map.look(2 * arrows[n]), tags[arrows[n]]);
            }
            clearNow();
            int[] freeArrows = arrows;
            long[] freeTags = tags;
            arrows = nextArrows;
            tags = nextTags;
            many = nextMany;
            nextArrows = freeArrows;
            nextTags = freeTags;
            nextMany = 0;
            return many > 0;
        }

        private void clearNow() {
            for (int n = 0; n < many; n++) {
                tags[arrows[n]] = 0;
            }
            many = 0;
        }

        private void carry(int row, long tag) {
            for (int half = 0; half < 2; half++) {
                long bits = map.rows[row + YearMap.ON + half];
                for (int rest = Long.bitCount(bits); rest > 0; rest--) {
                    int arrow = 64 * half + Long.bitCount((bits & -bits) - 1);
                    bits &= bits - 1;
                    long come = tag;
                    if (lengths != 0) {
                        int length = map.land.wayLength[arrow >> 1];
                        come = length < 64 ? tag << length & lengths : 0;
                    }
                    if (come != 0) {
                        if (nextTags[arrow] == 0) {
                            nextArrows[nextMany++] = arrow;
                        }
                        nextTags[arrow] |= come;
                    }
                }
            }
        }
    }

    /** WALKERS on the map: where a WORD leads one of them, and where a TELLING does. */
    private static final class Walk {
        final YearMap map;
        private final Folk folk;
        final Book book;
        private final Steps steps;
        /** By WALKER and NAME, as far as the ground was learned: KINDS, and PLACES where the NAME STANDS. */
        private final int[] kinds = new int[MOST_WALKERS * NAMES];
        private final long[] standing = new long[MOST_WALKERS * NAMES];
        private int who;
        States now = new States();
        private States next = new States();
        private final int[] list = new int[MOST_STATES];

        Walk(YearMap map, Folk folk, Book book) {
            this.map = map;
            this.folk = folk;
            this.book = book;
            this.steps = new Steps(map);
        }

        void learnGround(int walker) {
            for (int name = 0; name < NAMES; name++) {
                int meant = folk.kindsOf(walker, name);
                kinds[walker * NAMES + name] = meant;
                standing[walker * NAMES + name] = map.placesWith(meant);
            }
        }

        void become(int walker) {
            who = walker;
        }

        /** To him who walks the NAME means just these KINDS, till he learns the ground again. */
        void suppose(int name, int meant) {
            int noticed = meant & folk.notices[who];
            kinds[who * NAMES + name] = noticed;
            standing[who * NAMES + name] = map.placesWith(noticed);
        }

        long placesWith(int name) {
            return standing[who * NAMES + name];
        }

        long seenPlaces(int name) {
            return map.seenPlaces(kinds[who * NAMES + name]);
        }

        /** Adds the STATES to which a WORD leads from the first so many of a row. */
        void lead(int word, int[] from, int many, States to) {
            int number = word >> 4 & 31;
            int name = word >> 9;
            switch (word & 15) {
                case ON_TIMES:
                    goTimes(number, from, many, to);
                    break;
                case UNTIL:
                    goUntil(placesWith(name), from, many, false, to);
                    break;
                case PAST:
                    goUntil(placesWith(name), from, many, true, to);
                    break;
                case FAR:
                    goFar(number, from, many, to);
                    break;
                case SEE:
                    staySeeing(seenPlaces(name), from, many, to);
                    break;
                case OVER:
                    stayAheadOf(placesWith(name), from, many, to);
                    break;
                case LOOSE:
                    staySeeing(-1L, from, many, to);
                    break;
                case BACK:
                    goBack(from, many, to);
                    break;
                case LEFT:
                case RIGHT:
                    turn(sideOf(word & 15, LEFT), from, many, to);
                    break;
                case NTH_LEFT:
                case NTH_RIGHT:
                    steps.begin(from, 0, many, 0);
                    turnAt(number, sideOf(word & 15, NTH_LEFT), name == NO_NAME ? 0 : placesWith(name), to);
                    break;
                default:
                    break;
            }
        }

        /** 0 for what is to the left and 1 to the right of him who walks, whatever he calls it. */
        private int sideOf(int does, int left) {
            return (does == left) == folk.turns[who] ? 1 : 0;
        }

        private void goTimes(int times, int[] from, int many, States to) {
            if (times > folk.patience[who]) {
                return;
            }
            steps.begin(from, 0, many, 0);
            int gone = 0;
            while (gone < times && steps.go()) {
                gone++;
            }
            for (int n = 0; n < steps.many; n++) {
                to.add(2 * steps.arrows[n]);
            }
        }

        private void goUntil(long places, int[] from, int many, boolean past, States to) {
            if (places == 0) {
                return;
            }
            steps.begin(from, 0, many, 0);
            for (int gone = 0; gone < folk.patience[who] && steps.go(); gone++) {
                for (int n = 0; n < steps.many; n++) {
                    int arrow = steps.arrows[n];
                    if (!isIn(places, map.land.spots[2 * arrow])) {
                        continue;
                    }
                    steps.tags[arrow] = 0;
                    if (past) {
                        int row = map.look(2 * arrow) + YearMap.ON;
                        to.addArrows(map.rows[row], map.rows[row + 1]);
                    } else {
                        to.add(2 * arrow);
                    }
                }
            }
        }

        private void goFar(int number, int[] from, int many, States to) {
            long notTooFar = (1L << (2 * number + 1)) - 1;
            long farEnough = notTooFar & -(1L << (number + 1) / 2);
            steps.begin(from, 0, many, notTooFar);
            for (int gone = 0; gone < folk.patience[who] && steps.go(); gone++) {
                for (int n = 0; n < steps.many; n++) {
                    int arrow = steps.arrows[n];
                    if ((steps.tags[arrow] & farEnough) != 0) {
                        to.add(2 * arrow);
                    }
                }
            }
        }

        private void staySeeing(long places, int[] from, int many, States to) {
            for (int n = 0; n < many; n++) {
                if (isIn(places, map.land.spots[from[n]])) {
                    to.add(from[n]);
                }
            }
        }

        private void stayAheadOf(long places, int[] from, int many, States to) {
            for (int n = 0; n < many; n++) {
                boolean ahead = false;
                steps.begin(from, n, n + 1, 0);
                for (int gone = 0; gone < LOOK_AHEAD && !ahead && steps.go(); gone++) {
                    for (int m = 0; m < steps.many; m++) {
                        ahead |= isIn(places, map.land.spots[2 * steps.arrows[m]]);
                    }
                }
                if (ahead) {
                    to.add(from[n]);
                }
            }
        }

        private void goBack(int[] from, int many, States to) {
            for (int n = 0; n < many; n++) {
                if ((from[n] & 1) == 0 && isIn(map.ways, from[n] >> 2)) {
                    to.add(from[n] ^ 2);
                }
            }
        }

        private void turn(int side, int[] from, int many, States to) {
            for (int n = 0; n < many; n++) {
                int row = map.look(from[n]) + 2 * side;
                to.addArrows(map.rows[row], map.rows[row + 1]);
            }
        }

        /** At the N-th PLACE with a way to that side; PLACES that are passed over don't count. */
        private void turnAt(int number, int side, long passedOver, States to) {
            boolean allCount = folk.countsPaths[who];
            long low = allCount ? -1L : ~map.paths[0];
            long high = allCount ? -1L : ~map.paths[1];
            for (int gone = 0; gone < folk.patience[who] && steps.go(); gone++) {
                for (int n = 0; n < steps.many; n++) {
                    int arrow = steps.arrows[n];
                    int row = map.look(2 * arrow) + 2 * side;
                    long lowOut = map.rows[row] & low;
                    long highOut = map.rows[row + 1] & high;
                    if ((lowOut | highOut) == 0 || isIn(passedOver, map.land.spots[2 * arrow])) {
                        continue;
                    }
                    long counted = steps.tags[arrow] << 1;
                    if (isIn(counted, number)) {
                        to.addArrows(lowOut, highOut);
                    }
                    steps.tags[arrow] = counted & ~(1L << number);
                }
            }
        }

        /** Leaves in now where the first k SAYINGS lead him: how many of them lead somewhere. */
        int follow(int telling, int state, int k) {
            now.clear();
            now.add(state);
            for (int saying = 0; saying < k; saying++) {
                int base = telling * TEXT_WORDS + saying * MOST_WORDS;
                next.clear();
                int many = now.list(list);
                for (int w = 0; w < MOST_WORDS && book.words[base + w] != 0; w++) {
                    lead(book.words[base + w], list, many, next);
                }
                States free = now;
                now = next;
                next = free;
                if (now.isEmpty()) {
                    return saying;
                }
            }
            return k;
        }

        long lastPlaces(int telling, int state) {
            follow(telling, state, book.sayings[telling]);
            return map.placesOf(now);
        }

        boolean getsThere(int telling, int state) {
            follow(telling, state, book.sayings[telling]);
            return map.placesOf(now) == 1L << book.goals[telling];
        }
    }

    /** A million parts on their way. */
    private static final class Odds {
        private final Walk walk;
        private int[] here = new int[MOST_STATES];
        private int[] there = new int[MOST_STATES];
        private final int[] one = new int[1];
        private final States target = new States();
        private final int[] list = new int[MOST_STATES];
        private final int[] firstAt = new int[MOST_PLACES];
        private final int[] secondAt = new int[MOST_PLACES];

        Odds(Walk walk) {
            this.walk = walk;
        }

        void start(int state) {
            Arrays.fill(here, 0);
            here[state] = WHOLE;
        }

        void spread(States states) {
            Arrays.fill(here, 0);
            share(WHOLE, states, here);
        }

        private void share(int many, States states, int[] to) {
            int size = states.list(list);
            if (size == 0) {
                return;
            }
            int each = many / size;
            int left = many % size;
            for (int n = 0; n < size; n++) {
                to[list[n]] += n < left ? each + 1 : each;
            }
        }

        /** From a SAYING on, those ahead of it counted. */
        void goOn(int telling, int ahead) {
            for (int saying = ahead; saying < walk.book.sayings[telling]; saying++) {
                int base = telling * TEXT_WORDS + saying * MOST_WORDS;
                Arrays.fill(there, 0);
                for (int state = 0; state < MOST_STATES; state++) {
                    if (here[state] == 0) {
                        continue;
                    }
                    one[0] = state;
                    target.clear();
                    for (int w = 0; w < MOST_WORDS && walk.book.words[base + w] != 0; w++) {
                        walk.lead(walk.book.words[base + w], one, 1, target);
                    }
                    share(here[state], target, there);
                }
                int[] free = here;
                here = there;
                there = free;
            }
        }

        int partsAt(int place) {
            int parts = 0;
            for (int state = 0; state < 4 * walk.map.land.ways; state++) {
                if (walk.map.land.spots[state] == place) {
                    parts += here[state];
                }
            }
            return parts;
        }

        private void sumUp(int[] places) {
            Arrays.fill(places, 0);
            for (int state = 0; state < 4 * walk.map.land.ways; state++) {
                places[walk.map.land.spots[state]] += here[state];
            }
        }

        /** The odds that two come to the same PLACE, rounded down at each. */
        int meet(int one, int from, int other, int at) {
            start(from);
            goOn(one, 0);
            sumUp(firstAt);
            start(at);
            goOn(other, 0);
            sumUp(secondAt);
            long sum = 0;
            for (int p = 0; p < MOST_PLACES; p++) {
                sum += (long) firstAt[p] * secondAt[p] / WHOLE;
            }
            return (int) sum;
        }
    }

    /** Looks for the SHORTEST row of WORDS. */
    private static final class Finder {
        private final Walk walk;
        private int walkers;
        private long goal;
        final int[] found = new int[MOST_FOUND];
        /** By how many WORDS lie behind, by WALKER: where he is then. */
        private final States[] sets = new States[MOST_FOUND * MOST_WALKERS];
        /** By WALKER and STATE, sets of WORDS: those tried; of these, those that lead to the goal alone, or astray. */
        private final int[] tried = new int[MOST_WALKERS * MOST_STATES];
        private final int[] leading = new int[MOST_WALKERS * MOST_STATES];
        private final int[] astray = new int[MOST_WALKERS * MOST_STATES];
        private final States target = new States();
        private final int[] list = new int[MOST_STATES];
        private final int[] one = new int[1];

        Finder(Walk walk) {
            this.walk = walk;
            for (int n = 0; n < MOST_FOUND * MOST_WALKERS; n++) {
                sets[n] = new States();
            }
        }

        void begin(int set, int state, int place) {
            walkers = set;
            goal = 1L << place;
            for (int walker = 0; walker < MOST_WALKERS; walker++) {
                if (isIn(set, walker)) {
                    int first = walker * MOST_STATES;
                    int end = first + 4 * walk.map.land.ways;
                    Arrays.fill(tried, first, end, 0);
                    Arrays.fill(leading, first, end, 0);
                    Arrays.fill(astray, first, end, 0);
                    sets[walker].clear();
                    sets[walker].add(state);
                }
            }
        }

        /** The least row of so many WORDS more that leads all of them to the goal: whether there is one. */
        private boolean search(int behind, int more) {
            if (behind < 0 || more < 1 || behind + more > MOST_FOUND) {
                return false;
            }
            int words = ALL_LISTED;
            if (more == 1) {
                for (int walker = 0; walker < MOST_WALKERS && words != 0; walker++) {
                    if (isIn(walkers, walker)) {
                        words = arriving(words, walker, behind);
                    }
                }
                found[behind] = words == 0 ? NONE : lowest(words);
                return words != 0;
            }
            for (int word = 0; word < LISTED; word++) {
                found[behind] = word;
                if (allGoOn(word, behind) && search(behind + 1, more - 1)) {
                    return true;
                }
            }
            return false;
        }

        private boolean allGoOn(int word, int behind) {
            for (int walker = 0; walker < MOST_WALKERS; walker++) {
                if (isIn(walkers, walker)) {
                    States to = sets[(behind + 1) * MOST_WALKERS + walker];
                    to.clear();
                    int many = sets[behind * MOST_WALKERS + walker].list(list);
                    walk.become(walker);
                    walk.lead(listedWord(word), list, many, to);
                    if (to.isEmpty()) {
                        return false;
                    }
                }
            }
            return true;
        }

        /** Those of a set of WORDS that lead a WALKER from where he is to the goal alone. */
        private int arriving(int words, int walker, int behind) {
            walk.become(walker);
            int many = sets[behind * MOST_WALKERS + walker].list(list);
            int left = words;
            int some = 0;
            for (int n = 0; n < many && left != 0; n++) {
                int at = walker * MOST_STATES + list[n];
                one[0] = list[n];
                int fresh = left & ~tried[at];
                for (int rest = Integer.bitCount(fresh); rest > 0; rest--) {
                    target.clear();
                    walk.lead(listedWord(lowest(fresh)), one, 1, target);
                    judge(at, fresh & -fresh);
                    fresh &= fresh - 1;
                }
                left &= ~astray[at];
                some |= leading[at];
            }
            return left & some;
        }

        private void judge(int at, int word) {
            long places = walk.map.placesOf(target);
            tried[at] |= word;
            if (places == goal) {
                leading[at] |= word;
            } else if (places != 0) {
                astray[at] |= word;
            }
        }
    }

    /** The tape, and how a TEXT on it is read. */
    private static final class Reader {
        /** The words of TEXTS, six signs each; a word's TOKEN is its number here. */
        private static final String VOCABULARY =
                "oak   farm  bridgeschoolpond  churchinn   gate  stone mill  well  cross on    until past  far   see   over  loose back  left  right or    not   ";
        private static final int WIDTH = 6;
        private static final int TOKEN_ON = 12;
        private static final int TOKEN_UNTIL = 13;
        private static final int TOKEN_PAST = 14;
        private static final int TOKEN_FAR = 15;
        private static final int TOKEN_SEE = 16;
        private static final int TOKEN_OVER = 17;
        private static final int TOKEN_LOOSE = 18;
        private static final int TOKEN_BACK = 19;
        private static final int TOKEN_LEFT = 20;
        private static final int TOKEN_RIGHT = 21;
        private static final int TOKEN_OR = 22;
        private static final int TOKEN_NOT = 23;
        private static final int VOCABULARY_SIZE = 24;
        private static final int TOKEN_NUMBER = 24;
        private static final int TOKEN_STOP = 25;
        private static final int TOKEN_END = 26;
        private static final int TOKEN_STRANGE = 27;

        // What is awaited.
        private static final int A_SAYING = 0;
        private static final int A_WORD = 1;
        private static final int TIMES_OR_UNTIL = 2;
        private static final int A_LENGTH = 3;
        private static final int A_NAME = 4;
        private static final int A_SIDE = 5;
        private static final int MORE = 6;
        private static final int MORE_OR_NOT = 7;

        private static final int CANT_STAND = 2;
        private static final int BAD_NUMBER = 3;
        private static final int TOO_MANY = 4;

        private final byte[] tape = new byte[MOST_BYTES];
        int held;
        int fault;
        int faultAt = NONE;
        final int[] words = new int[TEXT_WORDS];
        /** SAYINGS read. */
        int many;
        private int at;
        private int begun;
        private int token;
        private int number;
        private int awaited;
        private int ors;
        private int does;
        private int amount;

        void put(int four) {
            for (int shift = 24; shift >= 0 && held < MOST_BYTES; shift -= 8) {
                tape[held] = (byte) (four >> shift);
                held++;
            }
        }

        /** Reads the first n bytes; the tape is empty then. Answers the FAULT, 0 without. */
        int read(int n) {
            Arrays.fill(words, 0);
            many = 0;
            at = 0;
            awaited = A_SAYING;
            ors = 0;
            token = TOKEN_STOP;
            int kind = 0;
            for (int tokens = 0; tokens <= n && kind == 0 && token != TOKEN_END; tokens++) {
                scan(n);
                kind = token == NONE ? 1 : take();
            }
            held = 0;
            fault = kind;
            faultAt = kind == 0 ? NONE : begun;
            return kind;
        }

        /** The next TOKEN; NONE if none begins so. */
        private void scan(int n) {
            while (at < n && (tape[at] == ' ' || tape[at] == '\n')) {
                at++;
            }
            begun = at;
            if (at >= n) {
                token = TOKEN_END;
            } else if (tape[at] == ';') {
                at++;
                token = TOKEN_STOP;
            } else if (tape[at] >= '0' && tape[at] <= '9') {
                scanNumber(n);
            } else if (tape[at] >= 'a' && tape[at] <= 'z') {
                scanWord(n);
            } else {
                token = NONE;
            }
        }

        private void scanNumber(int n) {
            number = 0;
            while (at < n && tape[at] >= '0' && tape[at] <= '9') {
                number = at - begun < 2 ? 10 * number + tape[at] - '0' : number;
                at++;
            }
            token = at - begun <= 2 ? TOKEN_NUMBER : NONE;
        }

        private void scanWord(int n) {
            while (at < n && tape[at] >= 'a' && tape[at] <= 'z') {
                at++;
            }
            token = TOKEN_STRANGE;
            for (int word = 0; word < VOCABULARY_SIZE && at - begun <= WIDTH; word++) {
                if (isWord(word)) {
                    token = word;
                }
            }
        }

        private boolean isWord(int word) {
            for (int sign = 0; sign < WIDTH; sign++) {
                int read = begun + sign < at ? tape[begun + sign] : ' ';
                if (VOCABULARY.charAt(word * WIDTH + sign) != read) {
                    return false;
                }
            }
            return true;
        }

        /** Takes the TOKEN as what is awaited: its FAULT, 0 without. */
        private int take() {
            switch (awaited) {
                case A_SAYING:
                    return takeFirst();
                case A_WORD:
                    return takeWord();
                case TIMES_OR_UNTIL:
                    if (token == TOKEN_UNTIL) {
                        return await(A_NAME, UNTIL);
                    }
                    return takeAmount(ON_TIMES);
                case A_LENGTH:
                    return takeAmount(FAR);
                case A_NAME:
                    return token < NAMES ? keep(wordOf(does, amount, token), MORE) : CANT_STAND;
                case A_SIDE:
                    return takeSide();
                default:
                    return takeMore();
            }
        }

        private int await(int next, int nextDoes) {
            awaited = next;
            does = nextDoes;
            return 0;
        }

        private int keep(int word, int next) {
            int slot = many * MOST_WORDS + ors;
            if (slot < TEXT_WORDS) {
                words[slot] = word;
            }
            awaited = next;
            return 0;
        }

        private int takeFirst() {
            if (token == TOKEN_END) {
                return 0;
            }
            int kind = takeWord();
            return kind == 0 && many == MOST_SAYINGS ? TOO_MANY : kind;
        }

        private int takeWord() {
            amount = 0;
            switch (token) {
                case TOKEN_ON:
                    return await(TIMES_OR_UNTIL, 0);
                case TOKEN_PAST:
                    return await(A_NAME, PAST);
                case TOKEN_FAR:
                    return await(A_LENGTH, FAR);
                case TOKEN_SEE:
                    return await(A_NAME, SEE);
                case TOKEN_OVER:
                    return await(A_NAME, OVER);
                case TOKEN_LOOSE:
                    return keep(wordOf(LOOSE, 0, NO_NAME), MORE);
                case TOKEN_BACK:
                    return keep(wordOf(BACK, 0, NO_NAME), MORE);
                case TOKEN_LEFT:
                    return keep(wordOf(LEFT, 0, NO_NAME), MORE);
                case TOKEN_RIGHT:
                    return keep(wordOf(RIGHT, 0, NO_NAME), MORE);
                case TOKEN_NUMBER:
                    amount = number;
                    return isBadNumber() ? BAD_NUMBER : await(A_SIDE, 0);
                default:
                    return CANT_STAND;
            }
        }

        private boolean isBadNumber() {
            return number < 1 || number > 20;
        }

        private int takeAmount(int wordDoes) {
            if (token != TOKEN_NUMBER) {
                return CANT_STAND;
            }
            return isBadNumber() ? BAD_NUMBER : keep(wordOf(wordDoes, number, NO_NAME), MORE);
        }

        private int takeSide() {
            if (token != TOKEN_LEFT && token != TOKEN_RIGHT) {
                return CANT_STAND;
            }
            does = token == TOKEN_LEFT ? NTH_LEFT : NTH_RIGHT;
            return keep(wordOf(does, amount, NO_NAME), MORE_OR_NOT);
        }

        private int takeMore() {
            if (token == TOKEN_STOP) {
                many++;
                ors = 0;
                return await(A_SAYING, 0);
            }
            if (token == TOKEN_OR) {
                if (ors == MOST_WORDS - 1) {
                    return TOO_MANY;
                }
                ors++;
                return await(A_WORD, 0);
            }
            if (token == TOKEN_NOT && awaited == MORE_OR_NOT) {
                return await(A_NAME, does);
            }
            return CANT_STAND;
        }
    }

    /** A row of numbers of one sort, or MISSING. */
    private static final class Tray {
        boolean missing = true;
        private int sort;
        int many;
        final long[] row = new long[MOST_ON_TRAY];

        void lay(int newSort, int newMany) {
            missing = false;
            sort = newSort;
            many = newMany;
            Arrays.fill(row, 0L);
        }

        long cut(long v) {
            switch (sort) {
                case 0:
                    return (byte) v;
                case 1:
                    return (short) v;
                case 2:
                    return (int) v;
                default:
                    return v;
            }
        }

        boolean isSayable() {
            if (many > MOST_SAYINGS) {
                return false;
            }
            for (int n = 0; n < many; n++) {
                if (row[n] < 0 || row[n] >= LISTED) {
                    return false;
                }
            }
            return true;
        }
    }
}
