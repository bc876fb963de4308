/** Boundary cases of promises 9 to 13, and of what the terms say of names that stand and are seen. */
public final class FolkEdgesTest {
    private static final Edges.World RICH = Edges::rich;

    private FolkEdgesTest() {
    }

    public static void main(String[] args) {
        eachNameMeansItsKindAtFirst();
        emptyAndFullSets();
        aTongueOfTwo();
        noticesNothing();
        noticesOne();
        standsInItsYears();
        standsAtItsPlaceAlone();
        seenAlongAWay();
        seenInTheYearsOfBoth();
        seenIfItIsTall();
        seenIfOneIsNear();
        worthInItsYears();
        worthOfSets();
        worthByNames();
        othersOfItsKind();
        Check.finish(FolkEdgesTest.class);
    }

    private static void eachNameMeansItsKindAtFirst() {
        BurntOak oak = new BurntOak();
        for (int tongue = 0; tongue < 6; tongue++) {
            oak.tongue();
            for (int name = 0; name < 12; name++) {
                Check.same("10: name " + name + " in tongue " + tongue, oak.means(tongue, name, 4095 - tongue), 1 << name);
            }
        }
        for (int tongue = 0; tongue < 6; tongue++) {
            Check.same("10: the first name's set in tongue " + tongue, oak.means(tongue, 0, 0), 4095 - tongue);
            Check.same("10: the last name's set in tongue " + tongue, oak.means(tongue, 11, 0), 4095 - tongue);
        }
    }

    private static void emptyAndFullSets() {
        BurntOak oak = twelveMarks();
        oak.means(0, 4, 0);
        for (int place = 0; place < 12; place++) {
            Check.so("10: an empty set means nothing", !oak.stands(0, 4, place, 0, true));
        }
        Check.same("10: what they were", oak.means(0, 4, 4095), 0);
        for (int place = 0; place < 12; place++) {
            Check.so("10: a full set means all", oak.stands(0, 4, place, 0, false));
        }
        Edges.refused("10: a kind more", Check.ARGUMENT, RICH, o -> o.means(0, 4, 4096));
        Edges.refused("10: all kinds and one more", Check.ARGUMENT, RICH, o -> o.means(0, 4, 8191));
        Edges.refused("10: below the empty set", Check.ARGUMENT, RICH, o -> o.means(0, 4, -1));
        Edges.refused("10: no such name comes ahead of the set", Check.NO_SUCH, RICH, o -> o.means(0, 12, 4096));
        Edges.refused("10: no such tongue comes ahead of the set", Check.NO_SUCH, RICH, o -> o.means(2, 0, -1));
    }

    /** A mark of each kind at the place of its number, places without ways; a walker who notices all. */
    private static BurntOak twelveMarks() {
        BurntOak oak = new BurntOak();
        for (int n = 0; n < 12; n++) {
            oak.place(n, n);
            oak.mark(n, n, false, 0, 200);
        }
        oak.tongue();
        Edges.walker(oak, 1);
        return oak;
    }

    private static void aTongueOfTwo() {
        BurntOak oak = twelveMarks();
        oak.tongue();
        oak.walker(0, 4095, false, true, 1);
        oak.walker(1, 4095, false, true, 1);
        oak.means(0, 11, 1);
        Check.so("11: both of one tongue", oak.stands(0, 11, 0, 0, false) && oak.stands(1, 11, 0, 0, false));
        Check.so("11: not he of another", !oak.stands(2, 11, 0, 0, false) && oak.stands(2, 11, 11, 0, false));
    }

    private static void noticesNothing() {
        BurntOak oak = twelveMarks();
        int blind = oak.walker(0, 0, false, true, 20);
        for (int n = 0; n < 12; n++) {
            Check.so("11: he notices no " + n, !oak.stands(blind, n, n, 0, false) && !oak.stands(blind, n, n, 0, true));
            Check.same("13: he notices no " + n, oak.worth(n, 2, 0, 0), 0);
        }
    }

    private static void noticesOne() {
        for (int kind = 0; kind < 12; kind++) {
            BurntOak oak = twelveMarks();
            int one = oak.walker(0, 1 << kind, false, true, 20);
            for (int n = 0; n < 12; n++) {
                Check.same("11: he notices " + kind + " alone", oak.stands(one, n, n, 0, false) ? 1 : 0, n == kind ? 1 : 0);
            }
        }
    }

    private static void standsInItsYears() {
        BurntOak oak = twelveMarks();
        int mark = oak.mark(5, 7, false, 70, 80);
        int[] years = {0, 69, 70, 80, 81, 200};
        for (int year : years) {
            boolean then = year >= 70 && year <= 80;
            Check.same("12: in " + year, oak.stands(0, 7, 5, year, false) ? 1 : 0, then ? 1 : 0);
            Check.same("12: seen in " + year, oak.stands(0, 7, 5, year, true) ? 1 : 0, then ? 1 : 0);
        }
        oak.ends(false, mark, 70);
        Check.so("12: in its only year", oak.stands(0, 7, 5, 70, false));
        Check.so("12: it has ended", !oak.stands(0, 7, 5, 71, false));
    }

    private static void standsAtItsPlaceAlone() {
        BurntOak oak = twelveMarks();
        for (int name = 0; name < 12; name++) {
            for (int place = 0; place < 12; place++) {
                Check.same("12: " + name + " at " + place, oak.stands(0, name, place, 0, false) ? 1 : 0, name == place ? 1 : 0);
            }
        }
    }

    /** Places 0 to 4 in a line, a tall pond at 2, a low oak at 2. */
    private static BurntOak pondInTheMiddle() {
        BurntOak oak = Edges.line(5, 1);
        oak.mark(2, 4, true, 50, 100);
        oak.mark(2, 0, false, 0, 200);
        Edges.walker(oak, 1);
        return oak;
    }

    private static void seenAlongAWay() {
        BurntOak oak = pondInTheMiddle();
        int[] due = {0, 1, 1, 1, 0};
        for (int place = 0; place < 5; place++) {
            Check.same("12: the tall pond from " + place, oak.stands(0, 4, place, 75, true) ? 1 : 0, due[place]);
            Check.same("12: it stands at " + place, oak.stands(0, 4, place, 75, false) ? 1 : 0, place == 2 ? 1 : 0);
            Check.same("12: the low oak from " + place, oak.stands(0, 0, place, 75, true) ? 1 : 0, place == 2 ? 1 : 0);
        }
    }

    private static void seenInTheYearsOfBoth() {
        BurntOak oak = pondInTheMiddle();
        oak.ends(true, 1, 80);
        int[][] due = {{49, 0, 0}, {50, 1, 1}, {80, 1, 1}, {81, 0, 1}, {100, 0, 1}, {101, 0, 0}};
        for (int[] d : due) {
            Check.same("12: from 1, whose way ends with 80, in " + d[0], oak.stands(0, 4, 1, d[0], true) ? 1 : 0, d[1]);
            Check.same("12: from 3 in " + d[0], oak.stands(0, 4, 3, d[0], true) ? 1 : 0, d[2]);
            Check.same("12: at 2 in " + d[0], oak.stands(0, 4, 2, d[0], true) ? 1 : 0, d[2]);
        }
    }

    private static void seenIfItIsTall() {
        BurntOak oak = pondInTheMiddle();
        int noPonds = oak.walker(0, 4095 - 16, false, true, 1);
        Check.so("12: one who doesn't notice ponds", !oak.stands(noPonds, 4, 1, 75, true));
        oak.means(0, 9, 16 + 1);
        Check.so("12: by another name", oak.stands(0, 9, 1, 75, true));
        oak.means(0, 4, 1);
        Check.so("12: by a name that means what is low", !oak.stands(0, 4, 1, 75, true));
        oak.mark(2, 0, true, 75, 75);
        Check.so("12: one of two is tall", oak.stands(0, 4, 1, 75, true) && !oak.stands(0, 4, 1, 76, true));
    }

    private static void seenIfOneIsNear() {
        BurntOak oak = pondInTheMiddle();
        oak.mark(4, 4, true, 0, 200);
        oak.mark(0, 4, false, 0, 200);
        for (int place = 0; place < 5; place++) {
            Check.so("12: some pond from " + place, oak.stands(0, 4, place, 75, true));
        }
        Check.so("12: the last one, from beside it", oak.stands(0, 4, 3, 49, true));
        Check.so("12: neither the far one nor the low one", !oak.stands(0, 4, 1, 49, true) && !oak.stands(0, 4, 2, 49, true));
    }

    private static void worthInItsYears() {
        BurntOak oak = pondInTheMiddle();
        int[] years = {0, 49, 50, 100, 101, 200};
        for (int year : years) {
            boolean then = year >= 50 && year <= 100;
            Check.same("13: who knows it in " + year, oak.worth(0, 1, year, 0), then ? 1 : -1);
            Check.same("13: other ponds in " + year, oak.worth(0, 1, year, 1), then ? 0 : -1);
        }
        oak.ends(false, 0, 50);
        Check.same("13: in its only year", oak.worth(0, 1, 50, 0), 1);
        Check.same("13: it has ended", oak.worth(0, 1, 51, 0), -1);
        Edges.refused("13: another what, though it isn't there", Check.ARGUMENT, RICH, o -> o.worth(4, 1, 49, 2));
        Edges.refused("13: no such mark comes ahead of all", Check.NO_SUCH, RICH, o -> o.worth(5, 64, 201, 2));
    }

    private static void worthOfSets() {
        BurntOak oak = pondInTheMiddle();
        Check.same("13: the empty set", oak.worth(0, 0, 75, 0), 0);
        Check.same("13: the empty set is no matter", oak.worth(0, 0, 75, 1), 0);
        for (int n = 1; n < 8; n++) {
            int more = 1 << n;
            Check.thrown("13: one more than there are", Check.ARGUMENT, () -> oak.worth(0, more, 75, 0));
            oak.walker(0, n % 2 == 0 ? 4095 : 4095 - 16, false, true, 1);
            Check.same("13: he who came last", oak.worth(0, more, 75, 0), n % 2 == 0 ? 1 : 0);
            Check.same("13: all", oak.worth(0, 2 * more - 1, 75, 0), n / 2 + 1);
        }
        Check.thrown("13: a ninth", Check.ARGUMENT, () -> oak.worth(0, 256, 75, 0));
        Check.thrown("13: a ninth beside others", Check.ARGUMENT, () -> oak.worth(0, 257, 75, 1));
        Check.thrown("13: below the empty set", Check.ARGUMENT, () -> oak.worth(0, -1, 75, 0));
    }

    private static void worthByNames() {
        BurntOak oak = pondInTheMiddle();
        oak.means(0, 4, 0);
        Check.same("13: no name for it", oak.worth(0, 1, 75, 0), 0);
        oak.means(0, 0, 4095);
        Check.same("13: the first name is for it", oak.worth(0, 1, 75, 0), 1);
        oak.means(0, 11, 16);
        Check.same("13: two names are one walker", oak.worth(0, 1, 75, 0), 1);
        oak.means(0, 0, 4095 - 16);
        Check.same("13: the last name is for it", oak.worth(0, 1, 75, 0), 1);
        oak.means(0, 11, 0);
        Check.same("13: no name again", oak.worth(0, 1, 75, 0), 0);
    }

    private static void othersOfItsKind() {
        BurntOak oak = pondInTheMiddle();
        int beside = oak.mark(2, 4, false, 100, 100);
        oak.mark(0, 4, false, 0, 99);
        oak.mark(1, 5, false, 0, 200);
        Check.same("13: another one is there, but it isn't yet", oak.worth(0, 1, 49, 1), -1);
        Check.same("13: one ahead", oak.worth(0, 1, 99, 1), 1);
        Check.same("13: one at the same place", oak.worth(0, 1, 100, 1), 1);
        Check.same("13: that one's other", oak.worth(beside, 1, 100, 1), 1);
        oak.mark(4, 4, true, 99, 100);
        Check.same("13: two others", oak.worth(0, 1, 99, 1), 2);
        for (int n = oak.count(2); n < 40; n++) {
            oak.mark(3, 4, false, 60, 60);
        }
        Check.same("13: all others there can be, but for four", oak.worth(0, 1, 60, 1), 35);
    }
}
