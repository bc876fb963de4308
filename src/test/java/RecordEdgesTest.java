/** Boundary cases of promises 29 to 32: records, what is learned of them, and tellers. */
public final class RecordEdgesTest {
    private static final Edges.World RICH = Edges::rich;

    private RecordEdgesTest() {
    }

    public static void main(String[] args) {
        recordsToThirty();
        recordsOfWhatNobodyCouldGo();
        learnedOfNothing();
        learnedByThirtyRecords();
        learnedOfEachKind();
        learnedOfKindsNotNoticed();
        learnedByEachOfHisRecords();
        learnedInPlaceOfItsSet();
        learnedInTheYearOfTheRecord();
        learnedWithoutEnds();
        toldOfEachTeller();
        theGreatestPart();
        partsThatRoundingWouldNotTell();
        ofLikeOnesTheLeast();
        aTellerWithoutRecords();
        Check.finish(RecordEdgesTest.class);
    }

    /** Places 0 to 14 in a line, a mark of kind n at place n + 1; telling 0: on until gate, 1: on 1. */
    private static BurntOak kinds() {
        BurntOak oak = Edges.line(15, 1);
        for (int kind = 0; kind < 12; kind++) {
            oak.mark(kind + 1, kind, false, 50, 150);
        }
        Edges.walker(oak, 20);
        Edges.walker(oak, 20);
        Town.tell(oak, "on until gate;", 8, 3);
        Town.tell(oak, "on 1;", 1, 9);
        return oak;
    }

    private static void recordsToThirty() {
        BurntOak oak = kinds();
        for (int n = 1; n <= 30; n++) {
            Check.same("29: record " + n, oak.went(n % 2, n % 2, Edges.START, n % 2 * 200, 14), n);
            Check.same("38: records", oak.count(6), n);
        }
        Check.same("29: a 31st", oak.went(0, 0, Edges.START, 0, 0), -1);
        Check.same("38: thirty still", oak.count(6), 30);
        Check.same("32: one half of them", oak.told(3, true), 15);
        Check.same("32: the other half", oak.told(9, true), 15);
        Edges.refused("29: the place behind the last", Check.NO_SUCH, RICH, o -> o.went(0, 0, 0, 201, 12));
        Edges.refused("29: ahead of the first year", Check.ARGUMENT, RICH, o -> o.went(0, 0, 0, -1, 0));
        Edges.refused("29: behind the last year", Check.ARGUMENT, RICH, o -> o.went(0, 0, 0, 201, 0));
    }

    /** A record tells what was, whatever the telling leads to. */
    private static void recordsOfWhatNobodyCouldGo() {
        BurntOak oak = kinds();
        Check.same("29: elsewhere than it leads", oak.went(0, 1, Edges.START, 0, 14), 1);
        Check.same("29: from where it leads nowhere", oak.went(0, 1, Edges.come(14), 0, 0), 2);
        Check.same("29: twice the same", oak.went(0, 1, Edges.come(14), 0, 0), 3);
        Check.same("31: it was wrong each time", oak.teller(), 9);
    }

    private static void learnedOfNothing() {
        BurntOak oak = kinds();
        oak.went(1, 0, Edges.START, 100, 0);
        for (int name = 0; name < 12; name++) {
            Check.same("30: another's records", oak.learned(0, name), 4095);
        }
        Check.same("30: his own", oak.learned(1, 7), 0);
    }

    private static void learnedByThirtyRecords() {
        BurntOak oak = kinds();
        for (int n = 0; n < 29; n++) {
            oak.went(0, 0, Edges.START, 100, 5);
        }
        Check.same("30: 29 alike", oak.learned(0, 7), 1 << 4);
        oak.went(0, 0, Edges.START, 100, 6);
        Check.same("30: the thirtieth counts, too", oak.learned(0, 7), 0);
    }

    private static void learnedOfEachKind() {
        for (int kind = 0; kind < 12; kind++) {
            BurntOak oak = kinds();
            oak.went(0, 0, Edges.START, 100, kind + 1);
            Check.same("30: it was kind " + kind, oak.learned(0, 7), 1 << kind);
            Check.same("10: the tongue is as it was", oak.means(0, 7, 0), 128);
        }
        BurntOak oak = kinds();
        oak.went(0, 0, Edges.START, 100, 0);
        Check.same("30: there no kind is", oak.learned(0, 7), 0);
        oak = kinds();
        oak.went(0, 0, Edges.START, 100, 13);
        Check.same("30: nor there", oak.learned(0, 7), 0);
    }

    private static void learnedOfKindsNotNoticed() {
        BurntOak oak = kinds();
        int blind = oak.walker(0, 0, false, true, 20);
        int some = oak.walker(0, 16, false, true, 20);
        Check.same("30: without records all, noticed or not", oak.learned(blind, 7), 4095);
        oak.went(blind, 0, Edges.START, 100, 5);
        oak.went(some, 0, Edges.START, 100, 5);
        Check.same("30: who notices nothing", oak.learned(blind, 7), 0);
        Check.same("30: who notices this alone", oak.learned(some, 7), 16);
        oak.went(some, 0, Edges.START, 100, 6);
        Check.same("30: what he doesn't notice", oak.learned(some, 7), 0);
    }

    private static void learnedByEachOfHisRecords() {
        BurntOak oak = kinds();
        Town.tell(oak, "on until gate or on 3 or on 5;", 0, 0);
        oak.went(0, 2, Edges.START, 100, 3);
        Check.same("30: on 3 leads there whatever it is", oak.learned(0, 7), 4095);
        oak.went(0, 2, Edges.START, 100, 9);
        Check.same("30: but not there", oak.learned(0, 7), 1 << 8);
        oak.went(0, 2, Edges.START, 100, 5);
        Check.same("30: and there again", oak.learned(0, 7), 1 << 8);
        oak.went(0, 1, Edges.START, 100, 2);
        Check.same("30: what isn't as told fits with nothing", oak.learned(0, 7), 0);
        Check.same("30: whatever the name", oak.learned(0, 0), 0);
    }

    private static void learnedInPlaceOfItsSet() {
        BurntOak oak = kinds();
        Town.tell(oak, "on until gate;on until mill;", 0, 0);
        oak.means(0, 7, 4095);
        oak.means(0, 9, 0);
        oak.went(0, 2, Edges.START, 100, 6);
        // The gate means all, so it is the first place; then the mill alone is what stands at 6.
        Check.same("30: the mill is kind 5", oak.learned(0, 9), 1 << 5);
        Check.same("30: the gate is nothing, for the mill is none", oak.learned(0, 7), 0);
        oak.means(0, 9, 32);
        Check.same("30: the gate is ahead of it", oak.learned(0, 7), 1 + 2 + 4 + 8 + 16);
    }

    private static void learnedInTheYearOfTheRecord() {
        BurntOak oak = kinds();
        for (int year : new int[] {49, 50, 150, 151}) {
            oak.image(0);
            oak.went(0, 0, Edges.START, year, 5);
            Check.same("30: in " + year, oak.learned(0, 7), year == 49 || year == 151 ? 0 : 16);
            oak.restore(0);
        }
        Check.same("30: as in the image", oak.learned(0, 7), 4095);
    }

    private static void learnedWithoutEnds() {
        BurntOak oak = kinds();
        Town.tell(oak, "", 0, 0);
        oak.went(0, 2, Edges.START, 100, 0);
        Check.same("30: nothing told, stayed", oak.learned(0, 7), 4095);
        oak.went(0, 2, Edges.START, 100, 1);
        Check.same("30: nothing told, gone", oak.learned(0, 7), 0);
    }

    private static void toldOfEachTeller() {
        BurntOak oak = Edges.line(3, 1);
        Edges.walker(oak, 1);
        for (int teller = 0; teller < 10; teller++) {
            Town.tell(oak, "on 1;", 1, teller);
        }
        Town.tell(oak, "on 1;", 2, 9);
        for (int teller = 0; teller < 10; teller++) {
            Check.same("32: none yet", oak.told(teller, true), 0);
            oak.went(0, teller, Edges.START, 0, 1);
            oak.went(0, teller, Edges.START, 0, 2);
            Check.same("32: two of teller " + teller, oak.told(teller, true), 2);
            Check.same("32: one ended at the goal", oak.told(teller, false), 1);
        }
        oak.went(0, 10, Edges.START, 0, 2);
        Check.same("32: another telling of his", oak.told(9, true), 3);
        Check.same("32: to another goal", oak.told(9, false), 2);
        Edges.refused("32: no tenth teller", Check.ARGUMENT, RICH, o -> o.told(10, false));
        Edges.refused("32: none ahead of the first", Check.ARGUMENT, RICH, o -> o.told(-1, true));
    }

    /** Records of tellers 1 and 2 (and of others, as many as there are pairs): so many at the goal, of so many. */
    private static int best(int[]... parts) {
        BurntOak oak = Edges.line(3, 1);
        Edges.walker(oak, 1);
        for (int n = 0; n < parts.length; n++) {
            Town.tell(oak, "on 1;", 1, n);
            for (int r = 0; r < parts[n][1]; r++) {
                oak.went(0, n, Edges.START, 0, r < parts[n][0] ? 1 : 2);
            }
        }
        return oak.teller();
    }

    private static int[] of(int good, int all) {
        return new int[] {good, all};
    }

    private static void theGreatestPart() {
        Check.same("31: all of one, nearly all of 29", best(of(28, 29), of(1, 1)), 1);
        Check.same("31: more, but a lesser part", best(of(10, 20), of(6, 10)), 1);
        Check.same("31: a part, none", best(of(0, 20), of(1, 10)), 1);
        Check.same("31: none, a part", best(of(1, 20), of(0, 10)), 0);
        Check.same("31: the only one", best(of(0, 0), of(0, 0), of(0, 1)), 2);
        Check.same("31: the last one", best(of(0, 1), of(0, 1), of(0, 1), of(0, 1), of(0, 1), of(0, 1), of(0, 1), of(0, 1), of(0, 1), of(1, 2)), 9);
    }

    private static void partsThatRoundingWouldNotTell() {
        Check.same("31: 7 of 15 and 7 of 15 less one", best(of(6, 13), of(7, 15)), 1);
        Check.same("31: 14 of 15 and 13 of 14", best(of(13, 14), of(14, 15)), 1);
        Check.same("31: 8 of 15 and 7 of 13", best(of(8, 15), of(7, 13)), 1);
        Check.same("31: 9 of 19 and 5 of 11", best(of(5, 11), of(9, 19)), 1);
        Check.same("31: 4 of 9 and 9 of 20", best(of(4, 9), of(9, 20)), 1);
        Check.same("31: 1 of 16 and 1 of 14", best(of(1, 16), of(1, 14)), 1);
    }

    private static void ofLikeOnesTheLeast() {
        Check.same("31: a half and a half", best(of(1, 2), of(10, 20)), 0);
        Check.same("31: a half and a half, the other way about", best(of(10, 20), of(1, 2)), 0);
        Check.same("31: two thirds behind a half", best(of(1, 2), of(2, 3), of(4, 6)), 1);
        Check.same("31: nothing and nothing", best(of(0, 3), of(0, 5)), 0);
        Check.same("31: all and all", best(of(0, 3), of(3, 3), of(1, 1)), 1);
    }

    private static void aTellerWithoutRecords() {
        Check.same("31: one without records is none", best(of(0, 0), of(0, 3)), 1);
        Check.same("31: nor behind it", best(of(0, 3), of(0, 0)), 0);
        Check.same("31: nobody has any", best(of(0, 0), of(0, 0)), -1);
    }
}
