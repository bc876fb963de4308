/** Boundary cases of promises 18 to 28: what a telling leads to, with odds, asking, and the shortest. */
public final class EndEdgesTest {
    private static final Edges.World RICH = Edges::rich;

    private EndEdgesTest() {
    }

    public static void main(String[] args) {
        behindNoneAndAll();
        behindWhatLeadsNowhere();
        theIthByNumbers();
        holdsAheadOfTheFirst();
        endsAreCountedOnce();
        rightIfThereAreSuch();
        nothingTold();
        oddsInLikeShares();
        oddsOfWhatIsLeft();
        oddsThatAreLost();
        oddsAddUp();
        partsByTheLeastName();
        partsBehindTenSayings();
        hangsOnWaysThereAre();
        yearsFromFirstToLast();
        yearsWithGaps();
        twoRoundedDown();
        twoWithNothingInCommon();
        neverAsked();
        askedBehindOneAndMore();
        ofLikeOnesNever();
        ofLikeOnesTheLeast();
        askedOfNobodyAnywhere();
        askedInLikeShares();
        askedOfPartsThatAreLeft();
        prices();
        eachWordIsShortest();
        theFewestThenTheLeastRow();
        asManyAsMost();
        forEachOfTheWalkers();
        notIfSomeStateGoesAstray();
        fromTheLastStateAndAtTheLastPlace();
        whereOneIsAlready();
        theKthWord();
        Check.finish(EndEdgesTest.class);
    }

    private static BurntOak line(int places, int... patience) {
        BurntOak oak = Edges.line(places, 1);
        for (int p : patience) {
            Edges.walker(oak, p);
        }
        return oak;
    }

    private static void behindNoneAndAll() {
        BurntOak oak = line(12, 20);
        Town.tell(oak, "on 1;".repeat(10), 10, 0);
        for (int k = 0; k <= 10; k++) {
            Check.same("18: behind " + k, oak.leads(0, 0, Edges.START, 0, k, -1), 1);
            Check.same("18: where behind " + k, oak.leads(0, 0, Edges.START, 0, k, 0), k == 0 ? 1 : Edges.come(k));
        }
        Edges.refused("18: behind more than all", Check.ARGUMENT, RICH, o -> o.leads(0, 0, 0, 9, 3, 0));
        Edges.refused("18: behind fewer than none", Check.ARGUMENT, RICH, o -> o.leads(0, 0, 0, 9, -1, 0));
        Edges.refused("18: behind one of no sayings", Check.ARGUMENT, RICH, o -> o.leads(3, 0, 0, 9, 1, 0));
        Edges.refused("18: no such state comes ahead of k", Check.NO_SUCH, RICH, o -> o.leads(3, 0, 44, 9, 1, 0));
        Edges.unchanged("18: behind none of no sayings", 5, RICH, o -> o.leads(3, 0, 5, 9, 0, 0));
    }

    private static void behindWhatLeadsNowhere() {
        BurntOak oak = line(3, 20);
        Town.tell(oak, "on 2;on 1;loose;", 0, 0);
        int[] due = {1, 1, 0, 0};
        for (int k = 0; k <= 3; k++) {
            Check.same("18: how many behind " + k, oak.leads(0, 0, Edges.START, 0, k, -1), due[k]);
        }
        Check.same("18: the first of none", oak.leads(0, 0, Edges.START, 0, 2, 0), -1);
        Check.same("18: the first of none, farther on", oak.leads(0, 0, Edges.START, 0, 3, 0), -1);
    }

    private static void theIthByNumbers() {
        BurntOak oak = line(24, 20);
        Town.tell(oak, "on 3 or loose or on 20 or on 1;", 0, 0);
        int[] states = {4, 0, 1, 8, 76, -1};
        int[] places = {4, 0, 1, 3, 20, -1};
        for (int i = -1; i <= 4; i++) {
            Check.same("18: state " + i, oak.leads(0, 0, Edges.START, 0, 1, i), states[i + 1]);
            Check.same("20: place " + i, oak.end(0, 0, Edges.START, 0, i), places[i + 1]);
        }
        for (int i : new int[] {-2, 5, Integer.MIN_VALUE, Integer.MAX_VALUE}) {
            Check.same("18: state " + i, oak.leads(0, 0, Edges.START, 0, 1, i), -1);
            Check.same("20: place " + i, oak.end(0, 0, Edges.START, 0, i), -1);
        }
        // Places come by their numbers, though states come otherwise.
        Town.tell(oak, "on 5;loose or back;", 0, 0);
        Check.same("20: the first place", oak.end(1, 0, Edges.START, 0, 0), 4);
        Check.same("20: the second place", oak.end(1, 0, Edges.START, 0, 1), 5);
        Check.same("18: the first state is at", oak.state(oak.leads(1, 0, Edges.START, 0, 2, 0), 0), 5);
    }

    private static void holdsAheadOfTheFirst() {
        for (int n = 0; n <= 10; n++) {
            BurntOak oak = line(n + 1 < 2 ? 2 : n + 1, 20);
            Town.tell(oak, "on 1;".repeat(10), 0, 0);
            int due = n == 0 ? 1 : n;
            Check.same("19: in a line of " + n, oak.holds(0, 0, Edges.START, 0), due);
        }
        BurntOak oak = line(12, 20);
        Town.tell(oak, "on 1;".repeat(10), 0, 0);
        Town.tell(oak, "back;on 1;", 0, 0);
        Town.tell(oak, "", 0, 0);
        Check.same("19: for all", oak.holds(0, 0, Edges.START, 0), 10);
        Check.same("19: for none", oak.holds(1, 0, Edges.START, 0), 0);
        Check.same("19: for none there are", oak.holds(2, 0, Edges.START, 0), 0);
    }

    private static void endsAreCountedOnce() {
        BurntOak oak = line(3, 20);
        Town.tell(oak, "loose or on 1;loose or back;", 0, 0);
        Town.tell(oak, "on 3;", 0, 0);
        Check.same("18: three states", oak.leads(0, 0, Edges.START, 0, 2, -1), 3);
        Check.same("20: at two places", oak.end(0, 0, Edges.START, 0, -1), 2);
        Check.same("20: no ends", oak.end(1, 0, Edges.START, 0, -1), 0);
        Check.same("20: the first of none", oak.end(1, 0, Edges.START, 0, 0), -1);
    }

    private static void rightIfThereAreSuch() {
        BurntOak oak = line(3, 20);
        for (int goal = 0; goal < 3; goal++) {
            Town.tell(oak, "on 3;", goal, 0);
            Check.so("21: no ends, whatever the goal", !oak.right(goal, 0, Edges.START, 0));
        }
        Town.tell(oak, "loose or on 1;loose or back;", 0, 0);
        Check.so("21: not all are there", !oak.right(3, 0, Edges.START, 0));
        Town.tell(oak, "on 1;loose or back;on 1 or loose;on until oak or loose;", 1, 0);
        Check.so("21: some are elsewhere", !oak.right(4, 0, Edges.START, 0));
        Town.tell(oak, "loose or on 1;on 1 or loose;on 2 or on 1;back or loose;see oak or loose;", 2, 0);
        Check.so("21: among many", !oak.right(5, 0, Edges.START, 0));
        Town.tell(oak, "on 2 or far 2;on 1 or loose;on 1;", 2, 0);
        Check.so("21: those that lead nowhere don't matter", oak.right(6, 0, Edges.START, 0));
    }

    private static void nothingTold() {
        BurntOak oak = line(2, 20);
        oak.telling(0, 1, 0);
        int[] due = {1, 0, 0, 1};
        for (int state = 0; state < 4; state++) {
            Check.same("21: nothing told at " + state, oak.right(0, 0, state, 0) ? 1 : 0, due[state]);
            Check.same("22: nothing told at " + state, oak.odds(0, 0, state, 0, 1), due[state] * 1000000);
            Check.same("20: nothing told at " + state, oak.end(0, 0, state, 0, 0), due[state]);
        }
        Check.same("25: in all years", oak.years(0, 0, 0, 0), 201);
        Check.same("25: in none", oak.years(0, 0, 1, 0), 0);
        Check.same("27: nothing to ask behind", oak.ask(0, 0, 0, 1, 0, 0, false), 0);
        Check.same("27: all is lost", oak.ask(0, 0, 0, 1, 0, 0, true), 1000000);
    }

    /** A star: come to place 1 along way 0 there are so many ways out, way n to place n + 1. */
    private static BurntOak star(int many) {
        BurntOak oak = new BurntOak();
        oak.place(50, 0);
        oak.place(50, 10);
        oak.way(0, 1, 0, 1, 0, 200);
        for (int n = 0; n < many; n++) {
            oak.place(2 * n, 60);
            oak.way(1, n + 2, 0, 1, 0, 200);
        }
        oak.tongue();
        Edges.walker(oak, 20);
        return oak;
    }

    private static void oddsInLikeShares() {
        for (int many = 1; many <= 38; many++) {
            BurntOak oak = star(many);
            Town.tell(oak, "left or right or on 1;", 0, 0);
            int left = 1000000 % many;
            for (int n = 0; n < many; n++) {
                int due = 1000000 / many + (n < left ? 1 : 0);
                Check.same("22: to " + n + " of " + many, oak.odds(0, 0, 0, 0, n + 2), due);
            }
            Check.same("22: none stay", oak.odds(0, 0, 0, 0, 1), 0);
        }
    }

    /** Parts are shared again and again, till there are fewer than states. */
    private static void oddsOfWhatIsLeft() {
        BurntOak oak = star(38);
        Town.tell(oak, "left or right or on 1;back;left or right or on 1 or loose;", 0, 0);
        // Of 26316 and 26315 parts each goes back, to a state of its own, and from there on to 37 others, or to 0, or stays.
        int first = 0;
        for (int n = 0; n < 38; n++) {
            int parts = 1000000 / 38 + (n < 1000000 % 38 ? 1 : 0);
            // From place n + 2 to place 1, then to all but n + 2, to 0, and it stays: 39 states; 0 has the least number.
            first += parts / 39 + (0 < parts % 39 ? 1 : 0);
        }
        Check.same("22: back where it began", oak.odds(0, 0, 0, 0, 0), first);
        BurntOak few = star(38);
        Town.tell(few, "left or right or on 1;back;".repeat(4) + "left or right or on 1;", 0, 0);
        int sum = 0;
        for (int p = 0; p < 40; p++) {
            sum += few.odds(0, 0, 0, 0, p);
        }
        Check.same("22: none is lost", sum, 1000000);
    }

    private static void oddsThatAreLost() {
        BurntOak oak = star(3);
        oak.mark(2, 0, false, 0, 200);
        Town.tell(oak, "left or right or on 1;see oak;", 2, 0);
        Town.tell(oak, "on until farm;", 2, 0);
        Town.tell(oak, "on until farm;loose;", 2, 0);
        Check.same("22: what sees it stays", oak.odds(0, 0, 0, 0, 2), 333334);
        Check.same("22: what doesn't is lost", oak.odds(0, 0, 0, 0, 3), 0);
        Check.same("27: lost is lost", oak.ask(0, 0, 0, 0, 0, 1000000, true), 666666);
        for (int p = 0; p < 5; p++) {
            Check.same("22: all is lost", oak.odds(1, 0, 0, 0, p), 0);
            Check.same("22: and doesn't come again", oak.odds(2, 0, 0, 0, p), 0);
        }
    }

    /** At a place the parts of all states at it count. */
    private static void oddsAddUp() {
        BurntOak oak = line(3, 20);
        Town.tell(oak, "loose or on 1;loose or back;", 0, 0);
        // 1 and 0 have 500000 each; 1 stays; 0 stays or goes back to 2: state 1 has 500000, 0 and 2 have 250000.
        Check.same("22: two states at 0", oak.odds(0, 0, Edges.START, 0, 0), 750000);
        Check.same("22: one at 1", oak.odds(0, 0, Edges.START, 0, 1), 250000);
        Check.same("22: none at 2", oak.odds(0, 0, Edges.START, 0, 2), 0);
        Town.tell(oak, "on 1 or on 1 or far 1 or far 2;", 1, 0);
        Check.same("22: to one state by four words", oak.odds(1, 0, Edges.START, 0, 1), 500000);
    }

    private static void partsByTheLeastName() {
        BurntOak oak = line(4, 20);
        Town.tell(oak, "on 1 or on 2;", 1, 0);
        Check.same("23: nothing to see", oak.parts(0, 0, Edges.START, 0), -1);
        oak.mark(1, 11, false, 50, 60);
        Check.same("23: by the last name", oak.parts(0, 0, Edges.START, 50), 11);
        Check.same("23: a year later, too", oak.parts(0, 0, Edges.START, 60), 11);
        Check.same("23: ahead of its years", oak.parts(0, 0, Edges.START, 49), -1);
        Check.same("23: behind its years", oak.parts(0, 0, Edges.START, 61), -1);
        oak.mark(1, 0, true, 50, 60);
        Check.same("23: what is seen from both doesn't part", oak.parts(0, 0, Edges.START, 50), 11);
        oak.means(0, 0, 2048);
        Check.same("23: by the first name", oak.parts(0, 0, Edges.START, 50), 0);
        Town.tell(oak, "on 3 or on 2;", 3, 0);
        Check.same("23: it is seen from the wrong one", oak.parts(1, 0, Edges.START, 50), -1);
        Town.tell(oak, "on 4;", 3, 0);
        Check.same("23: no ends, no name", oak.parts(2, 0, Edges.START, 50), -1);
    }

    private static void partsBehindTenSayings() {
        BurntOak oak = line(4, 20);
        oak.mark(1, 3, false, 0, 200);
        Town.tell(oak, "on 1 or loose;" + "loose;".repeat(9), 1, 0);
        Check.same("17: ten sayings", oak.sayings(0), 10);
        Check.same("23: see is an eleventh", oak.parts(0, 0, Edges.START, 0), 3);
        Check.same("17: they are ten still", oak.sayings(0), 10);
    }

    private static void hangsOnWaysThereAre() {
        BurntOak oak = star(5);
        Town.tell(oak, "on 1;", 2, 0);
        Check.same("24: all six ways", oak.hangs(0, 0, 1, 0, true) + oak.hangs(0, 0, 1, 0, false), 6);
        Check.same("24: right facing it", oak.hangs(0, 0, 1, 0, true), 1);
        oak.ends(true, 1, 100);
        Check.same("24: in its last year", oak.hangs(0, 0, 1, 100, true), 1);
        Check.same("24: behind it", oak.hangs(0, 0, 1, 101, true), 0);
        Check.same("24: the others are wrong still", oak.hangs(0, 0, 1, 101, false), 5);
        Check.same("24: where one way begins", oak.hangs(0, 0, 0, 0, false), 1);
        Check.same("24: where a way was", oak.hangs(0, 0, 2, 101, false), 0);
    }

    private static void yearsAre(String what, BurntOak oak, int many, int first, int last) {
        Check.same("25: how many, " + what, oak.years(0, 0, Edges.START, 0), many);
        Check.same("25: the first, " + what, oak.years(0, 0, Edges.START, 1), first);
        Check.same("25: the last, " + what, oak.years(0, 0, Edges.START, 2), last);
    }

    private static BurntOak inYears(int from, int to) {
        BurntOak oak = new BurntOak();
        oak.place(0, 0);
        oak.place(1, 0);
        oak.way(0, 1, 0, 1, from, to);
        oak.tongue();
        Edges.walker(oak, 1);
        Town.tell(oak, "on 1;", 1, 0);
        return oak;
    }

    private static void yearsFromFirstToLast() {
        int[][] spans = {{0, 200}, {0, 0}, {200, 200}, {0, 199}, {1, 200}, {1, 199}, {100, 100}, {63, 64}};
        for (int[] s : spans) {
            yearsAre(s[0] + " to " + s[1], inYears(s[0], s[1]), s[1] - s[0] + 1, s[0], s[1]);
        }
        BurntOak never = inYears(0, 200);
        Town.tell(never, "on 1;", 0, 0);
        for (int what = 0; what < 3; what++) {
            Check.same("25: never right, " + what, never.years(1, 0, Edges.START, what), what == 0 ? 0 : -1);
        }
    }

    private static void yearsWithGaps() {
        BurntOak oak = inYears(0, 0);
        oak.way(0, 1, 0, 1, 2, 2);
        oak.way(0, 1, 0, 1, 198, 198);
        oak.way(0, 1, 0, 1, 200, 200);
        yearsAre("with gaps", oak, 4, 0, 200);
        oak.ends(true, 2, 198);
        yearsAre("ended with its only year", oak, 4, 0, 200);
        BurntOak marks = line(2, 1);
        Town.tell(marks, "on 1;see mill;", 1, 0);
        for (int n = 0; n < 40; n++) {
            marks.mark(1, 9, false, 5 * n, 5 * n);
        }
        yearsAre("of forty marks", marks, 40, 0, 195);
    }

    private static void twoRoundedDown() {
        BurntOak oak = star(7);
        Town.tell(oak, "left or right or on 1;", 0, 0);
        Town.tell(oak, "left or right or on 1 or back;", 0, 0);
        // 142858 and six times less by one; with back 125000 each.
        long shares = 142858L * 142858 / 1000000 + 6 * (142857L * 142857 / 1000000);
        Check.same("26: each rounded down", oak.two(0, 0, 0, 0, 0, 0, 1), shares);
        long both = 142858L * 125000 / 1000000 + 6 * (142857L * 125000 / 1000000);
        Check.same("26: of two tellings", oak.two(0, 0, 1, 0, 0, 0, 1), both);
        Check.same("26: places of both", oak.two(0, 0, 1, 0, 0, 0, 0), 7);
        Check.same("26: with itself", oak.two(1, 0, 1, 0, 0, 0, 0), 8);
        Town.tell(oak, "loose;", 0, 0);
        Check.same("26: all by all", oak.two(2, 0, 2, 0, 0, 0, 1), 1000000);
        Edges.refused("26: no such state comes ahead of the year", Check.NO_SUCH, RICH, o -> o.two(0, 0, 0, 44, 0, 201, 2));
        Edges.refused("26: no such walker comes ahead of what", Check.NO_SUCH, RICH, o -> o.two(0, 0, 0, 0, 6, 9, 2));
    }

    private static void twoWithNothingInCommon() {
        BurntOak oak = star(3);
        Town.tell(oak, "left;", 0, 0);
        Town.tell(oak, "loose;", 0, 0);
        Town.tell(oak, "on until oak;", 0, 0);
        Check.same("26: no place of both", oak.two(0, 0, 1, 0, 0, 0, 0), 0);
        Check.same("26: no odds of both", oak.two(0, 0, 1, 0, 0, 0, 1), 0);
        Check.same("26: one ends nowhere", oak.two(1, 0, 2, 0, 0, 0, 0), 0);
        Check.same("26: one is lost", oak.two(1, 0, 2, 0, 0, 0, 1), 0);
        Check.same("26: both are lost", oak.two(2, 0, 2, 0, 0, 0, 1), 0);
        Check.same("26: at one place by unlike states", oak.two(1, 0, 1, 5, 0, 0, 0), 1);
    }

    // ---- asking: walker 0 has patience 1, walker 1 patience 20

    private static void asked(String what, BurntOak oak, int telling, int price, int k, int loss) {
        Check.same("27: " + what, oak.ask(telling, 0, 1, Edges.START, 0, price, false), k);
        Check.same("27: the loss, " + what, oak.ask(telling, 0, 1, Edges.START, 0, price, true), loss);
    }

    private static void neverAsked() {
        BurntOak oak = line(24, 1, 20);
        Town.tell(oak, "on 2;", 2, 0);
        Town.tell(oak, "on 1;on 1;", 2, 0);
        Town.tell(oak, "on 1;on 2;", 3, 0);
        asked("behind all there is nothing to ask", oak, 0, 0, 0, 1000000);
        asked("it is right already", oak, 1, 0, 0, 0);
        asked("the last is too far for him", oak, 2, 0, 0, 1000000);
    }

    private static void askedBehindOneAndMore() {
        BurntOak oak = line(24, 1, 20);
        Town.tell(oak, "on 2;on 1;", 3, 0);
        Town.tell(oak, "on 1;on 2;on 1;", 4, 0);
        Town.tell(oak, "loose;".repeat(8) + "on 2;loose;", 2, 0);
        Town.tell(oak, "loose;".repeat(9) + "on 2;", 2, 0);
        asked("behind the first of two", oak, 0, 7, 1, 7);
        asked("behind the second of three", oak, 1, 7, 2, 7);
        asked("behind the ninth of ten", oak, 2, 7, 9, 7);
        asked("not behind the tenth of ten", oak, 3, 7, 0, 1000000);
    }

    private static void ofLikeOnesNever() {
        BurntOak oak = line(24, 1, 20);
        Town.tell(oak, "on 2;loose;", 2, 0);
        asked("for nearly all", oak, 0, 999999, 1, 999999);
        asked("for all", oak, 0, 1000000, 0, 1000000);
        Town.tell(oak, "on 1;loose;", 1, 0);
        asked("for nothing, but right already", oak, 1, 0, 0, 0);
        Town.tell(oak, "on 1;loose;", 2, 0);
        asked("for nothing, wrong either way", oak, 2, 0, 0, 1000000);
    }

    private static void ofLikeOnesTheLeast() {
        BurntOak oak = line(24, 1, 20);
        Town.tell(oak, "on 2;loose;loose;loose;", 2, 0);
        asked("behind the first of like ones", oak, 0, 5, 1, 5);
        Town.tell(oak, "loose;on 2;loose;loose;", 2, 0);
        asked("behind the second of like ones", oak, 1, 5, 2, 5);
        // Behind the first half is lost, behind the second nothing: the least loss, though k is more.
        Town.tell(oak, "on 1;on 2 or on 1;see oak;loose;", 3, 0);
        oak.mark(3, 0, false, 0, 200);
        asked("the least loss", oak, 2, 5, 3, 5);
    }

    private static void askedOfNobodyAnywhere() {
        BurntOak oak = line(4, 1, 20);
        Town.tell(oak, "on 20;loose;", 3, 0);
        asked("the teller comes nowhere", oak, 0, 0, 0, 1000000);
        Town.tell(oak, "on 3;on 1;loose;", 3, 0);
        asked("the teller comes nowhere behind the second", oak, 1, 0, 0, 1000000);
        Town.tell(oak, "on 3;loose or on 1;on 1 or loose;", 3, 0);
        asked("some of his ways go on", oak, 2, 0, 1, 0);
    }

    private static void askedInLikeShares() {
        BurntOak oak = star(3);
        // To him an oak is nothing; he asks one to whom it is one.
        oak.tongue();
        oak.means(1, 0, 0);
        oak.walker(1, 4095, false, true, 20);
        oak.mark(1, 0, false, 0, 200);
        for (int goal = 2; goal <= 4; goal++) {
            Town.tell(oak, "see oak;left or right or on 1;loose;", goal, 0);
            int loss = goal == 2 ? 666666 : 666667;
            Check.same("27: shares of three states", oak.ask(goal - 2, 1, 0, 0, 0, 0, true), loss);
            Check.same("27: behind the first", oak.ask(goal - 2, 1, 0, 0, 0, 0, false), 1);
            Check.same("27: with a price", oak.ask(goal - 2, 1, 0, 0, 0, 333332, true), Math.min(1000000, loss + 333332));
        }
        Town.tell(oak, "left or right or on 1;see oak or on until oak or loose;see oak or loose;loose;", 3, 0);
        Check.same("27: himself asked", oak.ask(3, 0, 0, 0, 0, 0, false), 0);
        // Three states share a million: the first has one part more.
        Town.tell(oak, "see oak;left or right or on 1;see oak or loose;", 2, 0);
        Check.same("27: behind the second as well", oak.ask(4, 1, 0, 0, 0, 0, true), 666666);
    }

    /** Where he asks, three states share a million: the one with the least number has the part that is left. */
    private static void askedOfPartsThatAreLeft() {
        BurntOak oak = new BurntOak();
        int[][] places = {{10, 50}, {20, 50}, {20, 60}, {30, 60}, {10, 60}};
        for (int p = 0; p < 5; p++) {
            oak.place(places[p][0], places[p][1]);
        }
        oak.way(0, 1, 0, 1, 0, 200);
        for (int p = 2; p < 5; p++) {
            oak.way(1, p, 0, 1, 0, 200);
        }
        oak.tongue();
        // What is left to others is right to him, and there is nothing to the right.
        oak.walker(0, 4095, true, true, 1);
        oak.walker(0, 4095, false, true, 1);
        for (int goal = 2; goal < 5; goal++) {
            Town.tell(oak, "left;loose;", goal, 0);
            int loss = goal == 2 ? 666666 : 666667;
            Check.same("27: asked where three ways end", oak.ask(goal - 2, 0, 1, 0, 0, 0, false), 1);
            Check.same("27: its share of what is left", oak.ask(goal - 2, 0, 1, 0, 0, 0, true), loss);
        }
    }

    private static void prices() {
        Edges.refused("27: a price below 0", Check.ARGUMENT, RICH, o -> o.ask(1, 0, 1, 0, 9, -1, true));
        Edges.refused("27: a price above a million", Check.ARGUMENT, RICH, o -> o.ask(1, 0, 1, 0, 9, 1000001, false));
        Edges.refused("27: a price, though there is nothing to ask", Check.ARGUMENT, RICH, o -> o.ask(3, 0, 1, 0, 9, 1000001, false));
        Edges.refused("27: no such teller comes ahead of the price", Check.NO_SUCH, RICH, o -> o.ask(1, 0, 6, 0, 9, -1, true));
        Edges.unchanged("27: one may ask himself", 0, RICH, o -> o.ask(3, 0, 0, 0, 9, 1000000, false));
    }

    // ---- the shortest

    private static void shortest(String what, BurntOak oak, int walkers, int state, int place, int most, int... due) {
        Check.same("28: how many, " + what, oak.shortest(walkers, state, place, 9, most, -1), due.length == 0 ? -1 : due.length);
        for (int k = 0; k < due.length; k++) {
            Check.same("28: word " + k + ", " + what, oak.shortest(walkers, state, place, 9, most, k), due[k]);
        }
        for (int k : new int[] {due.length, 3, -2, Integer.MIN_VALUE, Integer.MAX_VALUE}) {
            Check.same("28: not so many, " + what, oak.shortest(walkers, state, place, 9, most, k), -1);
        }
    }

    private static void eachWordIsShortest() {
        shortest("on 1", line(5, 20), 1, Edges.START, 1, 3, 0);
        BurntOak beside = sides();
        shortest("left", beside, 1, 0, 2, 3, 1);
        shortest("right", beside, 1, 0, 3, 3, 2);
        for (int name = 0; name < 12; name++) {
            BurntOak oak = line(8, 20);
            oak.mark(4, name, false, 9, 9);
            shortest("until " + name, oak, 1, Edges.START, 4, 3, 3 + name);
            shortest("past " + name, oak, 1, Edges.START, 5, 3, 15 + name);
        }
        shortest("1 left", beside, 1, Edges.START, 2, 3, 27);
        shortest("1 right", beside, 1, Edges.START, 3, 3, 28);
        shortest("2 left", beside, 1, Edges.START, 5, 3, 29);
        shortest("2 right", beside, 1, Edges.START, 6, 3, 30);
    }

    /** A line 0, 1, 4, 7; 2 is to the left of 1, 3 to the right; 5 is to the left of 4, 6 to the right. */
    private static BurntOak sides() {
        BurntOak oak = new BurntOak();
        int[][] places = {{10, 50}, {20, 50}, {20, 60}, {20, 40}, {30, 50}, {30, 60}, {30, 40}, {40, 50}};
        for (int[] p : places) {
            oak.place(p[0], p[1]);
        }
        int[][] ways = {{0, 1}, {1, 2}, {1, 3}, {1, 4}, {4, 5}, {4, 6}, {4, 7}};
        for (int[] w : ways) {
            oak.way(w[0], w[1], 0, 1, 0, 200);
        }
        oak.tongue();
        Edges.walker(oak, 20);
        oak.walker(0, 4095, true, true, 20);
        return oak;
    }

    private static void theFewestThenTheLeastRow() {
        BurntOak oak = line(8, 20);
        shortest("two steps", oak, 1, Edges.START, 2, 3, 0, 0);
        shortest("three steps", oak, 1, Edges.START, 3, 3, 0, 0, 0);
        oak.mark(3, 5, false, 9, 9);
        shortest("one word rather than three", oak, 1, Edges.START, 3, 3, 8);
        oak.mark(3, 2, false, 9, 9);
        shortest("the least of two", oak, 1, Edges.START, 3, 3, 5);
        shortest("past the least of two", oak, 1, Edges.START, 4, 3, 17);
        shortest("the first word least, then the second", oak, 1, Edges.START, 5, 3, 17, 0);
        BurntOak beside = sides();
        shortest("on 1 and left ahead of 1 left twice", beside, 1, Edges.START, 5, 3, 29);
        shortest("by the least row of two", beside, 1, Edges.START, 4, 3, 0, 0);
    }

    private static void asManyAsMost() {
        BurntOak oak = line(8, 20);
        shortest("two are needed, one is most", oak, 1, Edges.START, 2, 1);
        shortest("two are needed, two are most", oak, 1, Edges.START, 2, 2, 0, 0);
        shortest("three are needed, two are most", oak, 1, Edges.START, 3, 2);
        shortest("three are needed, three are most", oak, 1, Edges.START, 3, 3, 0, 0, 0);
        shortest("four are needed", oak, 1, Edges.START, 4, 3);
        Edges.refused("28: none is most", Check.ARGUMENT, RICH, o -> o.shortest(1, 0, 0, 9, 0, -1));
        Edges.refused("28: four are most", Check.ARGUMENT, RICH, o -> o.shortest(1, 0, 0, 9, 4, -1));
        Edges.refused("28: an empty set", Check.ARGUMENT, RICH, o -> o.shortest(0, 0, 0, 9, 1, -1));
        Edges.refused("28: below the empty set", Check.ARGUMENT, RICH, o -> o.shortest(-1, 0, 0, 9, 1, -1));
        Edges.refused("28: one more than there are", Check.ARGUMENT, RICH, o -> o.shortest(64, 0, 0, 9, 1, -1));
        Edges.refused("28: all and one more", Check.ARGUMENT, RICH, o -> o.shortest(127, 0, 0, 9, 1, -1));
        Edges.refused("28: no such place comes ahead of the set", Check.NO_SUCH, RICH, o -> o.shortest(0, 0, 12, 9, 1, -1));
        Edges.refused("28: no such state comes ahead of most", Check.NO_SUCH, RICH, o -> o.shortest(1, 44, 0, 9, 0, -1));
    }

    private static void forEachOfTheWalkers() {
        BurntOak oak = sides();
        shortest("one who turns", oak, 2, Edges.START, 2, 3, 28);
        shortest("both: neither left nor right is of use", oak, 3, Edges.START, 2, 3);
        oak.mark(7, 1, false, 9, 9);
        shortest("both come to the farm", oak, 3, Edges.START, 7, 3, 4);
        BurntOak eight = line(8, 1, 2, 3, 4, 5, 6, 7, 20);
        eight.mark(2, 1, false, 9, 9);
        shortest("all but him of patience 1", eight, 254, Edges.START, 2, 3, 4);
        shortest("all eight", eight, 255, Edges.START, 2, 3, 0, 0);
        shortest("the first alone", eight, 1, Edges.START, 2, 3, 0, 0);
        shortest("the last alone", eight, 128, Edges.START, 2, 3, 4);
        BurntOak fork = star(2);
        shortest("not if some way ends elsewhere", fork, 1, Edges.START, 2, 1);
    }

    /** On behind 1 is to 2 and to 3 alike, and straight on from there to 4 and to 5. */
    private static void notIfSomeStateGoesAstray() {
        BurntOak oak = new BurntOak();
        int[][] places = {{10, 50}, {20, 50}, {30, 60}, {30, 40}, {40, 70}, {40, 30}};
        for (int[] p : places) {
            oak.place(p[0], p[1]);
        }
        int[][] ways = {{0, 1}, {1, 2}, {1, 3}, {2, 4}, {3, 5}};
        for (int[] w : ways) {
            oak.way(w[0], w[1], 0, 1, 0, 200);
        }
        oak.tongue();
        Edges.walker(oak, 20);
        oak.walker(0, 4095, true, true, 20);
        shortest("left, then on, not on twice", oak, 1, 0, 4, 3, 1, 0);
        shortest("right, then on, though the other state has the lower number", oak, 1, 0, 5, 3, 2, 0);
        shortest("on is for one of two", oak, 1, Edges.START, 4, 3, 27, 0);
        shortest("what is left to one is right to the other", oak, 3, 0, 4, 3);
        // From 3 an oak is straight on, from 2 none: that state goes nowhere, so none goes astray.
        oak.mark(5, 0, false, 9, 9);
        shortest("a state that comes nowhere", oak, 3, 0, 5, 3, 3);
    }

    /** In a world of 40 places and 60 ways, from each state, to the last one: who stays is where he is. */
    private static void fromTheLastStateAndAtTheLastPlace() {
        Town town = new Town(49);
        BurntOak oak = town.oak;
        int stay = town.tell("loose;loose;", 39);
        for (int state = 0; state < 240; state++) {
            int place = oak.state(state, 0);
            String what = " from state " + state;
            Check.same("18: it stays," + what, oak.leads(stay, 0, state, 9, 2, 0), state);
            Check.same("20: it ends there," + what, oak.end(stay, 0, state, 9, 0), place);
            Check.same("21: right," + what, oak.right(stay, 0, state, 9) ? 1 : 0, place == 39 ? 1 : 0);
            Check.same("22: all is there," + what, oak.odds(stay, 0, state, 9, place), 1000000);
            Check.same("22: nothing is elsewhere," + what, oak.odds(stay, 0, state, 9, (place + 1) % 40), 0);
            Check.same("25: in all years," + what, oak.years(stay, 0, state, 0), place == 39 ? 201 : 0);
            Check.same("26: two of them in common," + what, oak.two(stay, state, stay, state, 0, 9, 0), 1);
            Check.same("26: two of them surely," + what, oak.two(stay, state, stay, state, 0, 9, 1), 1000000);
            Check.same("26: at both ends of an arrow," + what, oak.two(stay, state, stay, state ^ 1, 0, 9, 1), 0);
            Check.same("27: the loss," + what, oak.ask(stay, 0, 1, state, 9, 5, true), place == 39 ? 0 : 1000000);
        }
        Check.same("22: from the last state on", oak.odds(town.tell("on 1;", 4), 0, 239, 9, 4), 1000000);
        Check.same("28: from the last state on", oak.shortest(1, 239, 4, 9, 3, 0), 0);
    }

    private static void whereOneIsAlready() {
        BurntOak oak = line(8, 20);
        shortest("nothing is no telling", oak, 1, Edges.START, 0, 3);
        BurntOak round = new BurntOak();
        int[][] places = {{10, 10}, {20, 10}, {10, 20}};
        for (int[] p : places) {
            round.place(p[0], p[1]);
        }
        for (int n = 0; n < 3; n++) {
            round.way(n, (n + 1) % 3, 0, 1, 0, 200);
        }
        round.tongue();
        Edges.walker(round, 20);
        Edges.walker(round, 1);
        shortest("round and back by two corners", round, 1, Edges.START, 0, 3, 29);
        shortest("on, then round one corner within patience", round, 2, Edges.START, 0, 3, 0, 27);
        round.mark(0, 11, false, 9, 9);
        shortest("till the cross, where one was", round, 1, Edges.START, 0, 3, 14);
    }

    private static void theKthWord() {
        BurntOak oak = line(8, 20);
        oak.mark(2, 0, false, 9, 9);
        oak.mark(4, 1, false, 9, 9);
        oak.mark(6, 2, false, 9, 9);
        shortest("until the farm", oak, 1, Edges.START, 4, 3, 4);
        oak.means(0, 2, 7);
        shortest("until the farm, then until what can be all three", oak, 1, Edges.START, 6, 3, 4, 5);
        Check.same("28: in a year without marks", oak.shortest(1, Edges.START, 6, 10, 3, -1), -1);
        Check.same("28: nor a word of it", oak.shortest(1, Edges.START, 6, 10, 3, 0), -1);
        BurntOak oaks = line(8, 20);
        for (int place = 2; place <= 6; place += 2) {
            oaks.mark(place, 0, false, 0, 200);
        }
        shortest("thrice until the oak", oaks, 1, Edges.START, 6, 3, 3, 3, 3);
        shortest("twice until, once past", oaks, 1, Edges.START, 7, 3, 3, 3, 15);
        shortest("but not in two", oaks, 1, Edges.START, 7, 2);
    }
}
