/** Boundary cases of promises 2 to 8, and of what the terms say of places, ways, marks, states and ON. */
public final class GroundEdgesTest {
    private static final Edges.World RICH = Edges::rich;

    private GroundEdgesTest() {
    }

    public static void main(String[] args) {
        placesInTheCorners();
        noTwoPlacesAlike();
        waysOfOneYear();
        noYearInCommon();
        aYearInCommonWithEither();
        yearsThatHaveEnded();
        bothAreOne();
        lengthsAndKindsAreKept();
        marksOfOneYear();
        endsWithinItsYears();
        endsOnlyThatOne();
        statesOfAllWays();
        statesInWhateverYears();
        outButForTheArrowBack();
        crossByOne();
        crossFarOff();
        onIsOneOrSeveral();
        turnsThatRoundingWouldNotTell();
        turnsBeyondAnInt();
        turnsBehind();
        onByNumbers();
        Check.finish(GroundEdgesTest.class);
    }

    private static BurntOak withPlaces(int[]... places) {
        BurntOak oak = new BurntOak();
        for (int[] p : places) {
            oak.place(p[0], p[1]);
        }
        return oak;
    }

    private static void placesInTheCorners() {
        BurntOak oak = new BurntOak();
        Check.same("2: least, least", oak.place(0, 0), 0);
        Check.same("2: least, last", oak.place(0, 99), 1);
        Check.same("2: last, least", oak.place(99, 0), 2);
        Check.same("2: last, last", oak.place(99, 99), 3);
        int[][] beyond = {{-1, 0}, {0, -1}, {100, 0}, {0, 100}, {-1, -1}, {100, 100}, {-1, 100}};
        for (int[] b : beyond) {
            Edges.refused("2: beyond the corner " + b[0] + ", " + b[1], Check.ARGUMENT, RICH, o -> o.place(b[0], b[1]));
        }
    }

    private static void noTwoPlacesAlike() {
        BurntOak oak = withPlaces(new int[] {1, 2});
        Check.same("2: y, x are another place", oak.place(2, 1), 1);
        Check.same("2: the same x", oak.place(1, 3), 2);
        Check.same("2: the same y", oak.place(3, 2), 3);
        // Places of the town: the first, one between, the last.
        int[][] there = {{10, 50}, {60, 50}, {50, 40}};
        for (int[] t : there) {
            Edges.refused("2: one is there", Check.ARGUMENT, RICH, o -> o.place(t[0], t[1]));
        }
    }

    private static void waysOfOneYear() {
        for (int year : new int[] {0, 1, 100, 199, 200}) {
            BurntOak oak = withPlaces(new int[] {0, 0}, new int[] {9, 0});
            Check.same("3: a way of the year " + year, oak.way(0, 1, 0, 1, year, year), 0);
            for (int when = 0; when <= 200; when++) {
                Check.same("3: of " + year + " in " + when, oak.on(1, when, -1), when == year ? 1 : 0);
            }
        }
        Edges.refused("3: from above to by one", Check.ARGUMENT, RICH, o -> o.way(5, 6, 0, 1, 101, 100));
        Edges.refused("3: from the last to the first year", Check.ARGUMENT, RICH, o -> o.way(5, 6, 0, 1, 200, 0));
    }

    private static void noYearInCommon() {
        int[] years = {0, 1, 48, 49, 50, 51, 59, 60, 61, 62, 199, 200};
        for (int from : years) {
            for (int to : years) {
                if (from <= to) {
                    commonWithFiftyToSixty(from, to);
                }
            }
        }
    }

    private static void commonWithFiftyToSixty(int from, int to) {
        boolean common = from <= 60 && to >= 50;
        for (int turned = 0; turned < 2; turned++) {
            BurntOak oak = withPlaces(new int[] {0, 0}, new int[] {9, 0}, new int[] {9, 9});
            oak.way(0, 1, 0, 1, 50, 60);
            String what = "3: " + from + " to " + to + " beside 50 to 60, turned " + turned;
            int a = turned;
            if (common) {
                Check.thrown(what, Check.ARGUMENT, () -> oak.way(a, 1 - a, 0, 1, from, to));
                Check.same(what + ": ways", oak.count(1), 1);
            } else {
                Check.same(what, oak.way(a, 1 - a, 0, 1, from, to), 1);
            }
            Check.same(what + ", to another place", oak.way(a, 2, 0, 1, from, to), common ? 1 : 2);
        }
    }

    private static void aYearInCommonWithEither() {
        BurntOak oak = withPlaces(new int[] {0, 0}, new int[] {9, 0});
        oak.way(0, 1, 0, 1, 0, 49);
        oak.way(1, 0, 0, 1, 51, 200);
        Check.thrown("3: with the one ahead", Check.ARGUMENT, () -> oak.way(0, 1, 0, 1, 49, 50));
        Check.thrown("3: with the one behind", Check.ARGUMENT, () -> oak.way(0, 1, 0, 1, 50, 51));
        Check.same("3: the one year between", oak.way(0, 1, 0, 1, 50, 50), 2);
        Check.thrown("3: no year is left", Check.ARGUMENT, () -> oak.way(0, 1, 0, 1, 50, 50));
    }

    private static void yearsThatHaveEnded() {
        BurntOak oak = withPlaces(new int[] {0, 0}, new int[] {9, 0});
        oak.way(0, 1, 0, 1, 0, 200);
        oak.ends(true, 0, 100);
        Check.thrown("3: its last year now", Check.ARGUMENT, () -> oak.way(0, 1, 0, 1, 100, 200));
        Check.same("3: behind its last year now", oak.way(0, 1, 0, 1, 101, 200), 1);
        Check.thrown("5: it doesn't come again", Check.ARGUMENT, () -> oak.ends(true, 0, 101));
    }

    private static void bothAreOne() {
        Edges.refused("3: the first place and itself", Check.ARGUMENT, RICH, o -> o.way(0, 0, 0, 1, 0, 200));
        Edges.refused("3: the last place and itself", Check.ARGUMENT, RICH, o -> o.way(11, 11, 0, 1, 0, 200));
        Edges.refused("3: no such place, twice", Check.NO_SUCH, RICH, o -> o.way(12, 12, 0, 1, 0, 200));
    }

    /** A length is what far counts, a kind whether it is a path. */
    private static void lengthsAndKindsAreKept() {
        int[] lengths = {1, 2, 40, 41, 98, 99};
        for (int length : lengths) {
            String due = length <= 2 ? "0" : "";
            Check.same("3: far 1 along " + length, Edges.led(() -> walked(0, length), "far 1;", 0), due);
            due = length == 40 ? "0" : "";
            Check.same("3: far 20 along " + length, Edges.led(() -> walked(0, length), "far 20;", 0), due);
        }
        for (int kind = 0; kind < 3; kind++) {
            int k = kind;
            Check.same("3: kind " + kind + " counts", Edges.led(() -> walked(k, 1), "1 left;", 0), kind == 2 ? "" : "4");
        }
    }

    /** A way of that kind and length to the east, one of that kind to the left; a walker to whom paths don't count. */
    private static BurntOak walked(int kind, int length) {
        BurntOak oak = withPlaces(new int[] {0, 0}, new int[] {9, 0}, new int[] {9, 9});
        oak.way(0, 1, kind, length, 0, 200);
        oak.way(1, 2, kind, 99, 0, 200);
        oak.tongue();
        oak.walker(0, 0, false, false, 1);
        return oak;
    }

    private static void marksOfOneYear() {
        for (int year : new int[] {0, 1, 100, 199, 200}) {
            BurntOak oak = withPlaces(new int[] {0, 0});
            oak.tongue();
            Edges.walker(oak, 1);
            Check.same("4: a mark of the year " + year, oak.mark(0, 3, false, year, year), 0);
            for (int when = 0; when <= 200; when++) {
                Check.same("4: of " + year + " in " + when, oak.stands(0, 3, 0, when, false) ? 1 : 0, when == year ? 1 : 0);
            }
        }
        Edges.refused("4: from above to by one", Check.ARGUMENT, RICH, o -> o.mark(0, 0, true, 101, 100));
        Edges.refused("4: from the last to the first year", Check.ARGUMENT, RICH, o -> o.mark(0, 0, true, 200, 0));
    }

    private static BurntOak twoOfEach() {
        BurntOak oak = Edges.line(3, 1);
        oak.ends(true, 1, 150);
        oak.mark(0, 0, false, 0, 200);
        oak.mark(1, 1, true, 50, 60);
        return oak;
    }

    private static void endsWithinItsYears() {
        Edges.World world = GroundEdgesTest::twoOfEach;
        Edges.refused("5: ahead of its first year", Check.ARGUMENT, world, o -> o.ends(false, 1, 49));
        Edges.refused("5: behind its last year", Check.ARGUMENT, world, o -> o.ends(false, 1, 61));
        Edges.refused("5: the way ended with 150", Check.ARGUMENT, world, o -> o.ends(true, 1, 151));
        Edges.refused("5: ahead of the first of all years", Check.ARGUMENT, world, o -> o.ends(true, 0, -1));
        Edges.refused("5: behind the last of all years", Check.ARGUMENT, world, o -> o.ends(true, 0, 201));
        Edges.refused("5: a way more than there are", Check.NO_SUCH, world, o -> o.ends(true, 2, 201));
        Edges.refused("5: a mark more than there are", Check.NO_SUCH, world, o -> o.ends(false, 2, 201));
        Edges.unchanged("5: with its last year", 60, world, o -> o.ends(false, 1, 60));
        Edges.unchanged("5: the way with its last year", 150, world, o -> o.ends(true, 1, 150));
        BurntOak oak = twoOfEach();
        Check.same("5: with its first year", oak.ends(false, 1, 50), 60);
        Check.same("5: with its only year", oak.ends(false, 1, 50), 50);
        Check.thrown("5: behind its only year", Check.ARGUMENT, () -> oak.ends(false, 1, 51));
        Check.same("5: with the first of all years", oak.ends(true, 0, 0), 200);
        Check.same("5: in it there is a way", oak.on(1, 0, -1), 1);
        Check.same("5: behind it there is none", oak.on(1, 1, -1), 0);
    }

    private static void endsOnlyThatOne() {
        BurntOak oak = twoOfEach();
        oak.ends(true, 1, 10);
        oak.ends(false, 1, 55);
        Check.same("5: the other way ends as it did", oak.ends(true, 0, 200), 200);
        Check.same("5: the other mark ends as it did", oak.ends(false, 0, 200), 200);
        Check.same("5: this way", oak.ends(true, 1, 10), 10);
        Check.same("5: this mark", oak.ends(false, 1, 55), 55);
    }

    private static void statesOfAllWays() {
        BurntOak oak = new BurntOak();
        for (int n = 0; n < 40; n++) {
            oak.place(n, n % 3);
        }
        for (int n = 0; n < 60; n++) {
            int a = n % 40;
            int b = (n % 40 + 1 + n / 40) % 40;
            oak.way(a, b, 0, 1, 0, 200);
            int[] due = {b, a, a, b};
            for (int s = 0; s < 4; s++) {
                Check.same("6: the place of state " + (4 * n + s), oak.state(4 * n + s, 0), due[s]);
                Check.same("6: come to state " + (4 * n + s), oak.state(4 * n + s, 1), s % 2 == 0 ? 1 : 0);
                Check.same("6: the way of state " + (4 * n + s), oak.state(4 * n + s, 2), n);
            }
            int behind = 4 * n + 4;
            Check.thrown("6: no state " + behind, Check.NO_SUCH, () -> oak.state(behind, 0));
        }
    }

    private static void statesInWhateverYears() {
        BurntOak oak = withPlaces(new int[] {0, 0}, new int[] {9, 0});
        oak.way(0, 1, 0, 1, 200, 200);
        Check.same("6: of a way there is in the last year alone", oak.state(3, 0), 1);
        Check.same("7: a state of a way that isn't there", oak.out(1, 2, 199), 0);
        Check.same("7: and of one that is", oak.out(1, 2, 200), 1);
        Check.same("8: nothing to go on to", oak.on(1, 0, -1), 0);
        oak.ends(true, 0, 200);
        Check.same("6: there is the state still", oak.state(0, 2), 0);
    }

    private static void outButForTheArrowBack() {
        BurntOak oak = Edges.line(3, 1);
        Check.same("7: come to 1, only on", oak.out(0, 2, 0), 1);
        Check.same("7: at 1 facing east, on and behind", oak.out(5, 2, 0), 2);
        Check.same("7: at the end, come", oak.out(4, 2, 0), 0);
        Check.same("7: at the end, facing back", oak.out(7, 2, 0), 1);
        Check.same("8: at the end, come, no ON", oak.on(4, 0, -1), 0);
        Check.same("8: at the end, facing back, ON goes back", oak.on(7, 0, 0), 6);
    }

    /** CROSS is 1, 0 or -1. */
    private static void crossByOne() {
        BurntOak oak = withPlaces(new int[] {50, 50}, new int[] {51, 50}, new int[] {99, 51}, new int[] {99, 50}, new int[] {99, 49});
        oak.way(0, 1, 0, 1, 0, 200);
        oak.way(1, 2, 0, 1, 0, 10);
        oak.way(1, 3, 0, 1, 0, 20);
        oak.way(1, 4, 0, 1, 0, 30);
        int[][] due = {{5, 1, 1, 1}, {15, 0, 1, 1}, {25, 0, 1, 0}, {35, 0, 0, 0}};
        for (int[] d : due) {
            Check.same("7: left in " + d[0], oak.out(0, 0, d[0]), d[1]);
            Check.same("7: right in " + d[0], oak.out(0, 1, d[0]), d[2]);
            Check.same("7: neither in " + d[0], oak.out(0, 2, d[0]), d[3]);
        }
    }

    /** From corner to corner. */
    private static void crossFarOff() {
        BurntOak oak = withPlaces(new int[] {0, 0}, new int[] {99, 99}, new int[] {99, 0}, new int[] {0, 99}, new int[] {1, 0});
        oak.way(0, 1, 0, 1, 0, 200);
        oak.way(1, 2, 0, 1, 0, 200);
        oak.way(1, 3, 0, 1, 0, 200);
        oak.way(1, 4, 0, 1, 0, 200);
        // Facing (99, 99): to (99, 0) and to (1, 0) CROSS is below or above 0 by what they lie beside the way back.
        Check.same("7: far off, to the left", oak.out(0, 0, 0), 1);
        Check.same("7: far off, to the right", oak.out(0, 1, 0), 2);
        Check.same("7: far off, neither", oak.out(0, 2, 0), 0);
        Check.same("7: not come, straight behind", oak.out(3, 2, 0), 1);
    }

    private static void onIsOneOrSeveral() {
        BurntOak oak = withPlaces(new int[] {0, 50}, new int[] {10, 50}, new int[] {20, 60}, new int[] {20, 40}, new int[] {30, 70},
                new int[] {30, 30}, new int[] {40, 50});
        oak.way(0, 1, 0, 1, 0, 200);
        for (int n = 2; n <= 5; n++) {
            oak.way(1, n, 0, 1, 0, 200);
        }
        Check.same("8: four turned alike, of two lengths to both sides", oak.on(0, 0, -1), 4);
        oak.way(1, 6, 0, 1, 50, 50);
        Check.same("8: straight alone", oak.on(0, 50, -1), 1);
        Check.same("8: straight", oak.on(0, 50, 0), 20);
        Check.same("8: a year later four again", oak.on(0, 51, -1), 4);
        Check.same("8: none", oak.on(8, 0, -1), 0);
    }

    private static void turnsThatRoundingWouldNotTell() {
        BurntOak oak = withPlaces(new int[] {9, 50}, new int[] {10, 50}, new int[] {20, 52}, new int[] {20, 51}, new int[] {20, 49});
        oak.way(0, 1, 0, 1, 0, 200);
        oak.way(1, 2, 0, 1, 0, 200);
        oak.way(1, 3, 0, 1, 0, 100);
        // DOT 10: 100 by 104, 100 by 101; both below 1.
        Check.same("8: one alone is less turned", oak.on(0, 0, -1), 1);
        Check.same("8: this one", oak.on(0, 0, 0), 8);
        Check.same("8: without it the other", oak.on(0, 101, 0), 4);
        oak.way(1, 4, 0, 1, 50, 60);
        Check.same("8: its like to the other side", oak.on(0, 50, -1), 2);
        Check.same("8: is the second", oak.on(0, 50, 1), 12);
    }

    private static void turnsBeyondAnInt() {
        BurntOak oak = withPlaces(new int[] {0, 0}, new int[] {49, 49}, new int[] {99, 98}, new int[] {98, 99}, new int[] {99, 99});
        oak.way(0, 1, 0, 1, 0, 200);
        oak.way(1, 2, 0, 1, 0, 200);
        oak.way(1, 3, 0, 1, 50, 60);
        oak.way(1, 4, 0, 1, 60, 60);
        Check.same("8: nearly straight", oak.on(0, 49, 0), 4);
        Check.same("8: nearly straight to both sides", oak.on(0, 50, -1), 2);
        Check.same("8: straight is alone", oak.on(0, 60, -1), 1);
        Check.same("8: straight", oak.on(0, 60, 0), 12);
    }

    private static void turnsBehind() {
        BurntOak oak = withPlaces(new int[] {0, 0}, new int[] {99, 98}, new int[] {1, 0}, new int[] {0, 1}, new int[] {98, 99});
        oak.way(0, 1, 0, 1, 0, 200);
        oak.way(1, 2, 0, 1, 0, 200);
        Check.same("8: nearly back, if it is all there is", oak.on(0, 0, 0), 4);
        oak.way(1, 3, 0, 1, 50, 200);
        // 19306 by 19306 by 19208 is more than 19307 by 19307 by 19210, by less than 0.02: so the second is less turned.
        Check.same("8: of two that go nearly back one", oak.on(0, 50, -1), 1);
        Check.same("8: the less turned", oak.on(0, 50, 0), 8);
        oak.way(1, 4, 0, 1, 100, 200);
        Check.same("8: nearly across is less turned than nearly back", oak.on(0, 100, 0), 12);
        Check.same("8: facing on, the way behind is turned most", oak.on(3, 0, 0), 2);
    }

    private static void onByNumbers() {
        BurntOak oak = withPlaces(new int[] {0, 50}, new int[] {10, 50}, new int[] {30, 50}, new int[] {20, 50}, new int[] {40, 50});
        oak.way(1, 4, 0, 1, 0, 200);
        oak.way(3, 1, 0, 1, 0, 200);
        oak.way(0, 1, 0, 1, 0, 200);
        oak.way(1, 2, 0, 1, 0, 200);
        int[] due = {3, 0, 6, 12, -1};
        for (int i = -1; i <= 3; i++) {
            Check.same("8: " + i, oak.on(8, 0, i), due[i + 1]);
        }
        Check.same("8: below NONE", oak.on(8, 0, -2), -1);
        Check.same("8: the least of all numbers", oak.on(8, 0, Integer.MIN_VALUE), -1);
        Check.same("8: the greatest of all numbers", oak.on(8, 0, Integer.MAX_VALUE), -1);
    }
}
