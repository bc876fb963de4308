/** Promises 29 to 32. */
public final class RecordsTest {
    private RecordsTest() {
    }

    public static void main(String[] args) {
        went();
        learned();
        learnedByYears();
        learnedBySeeing();
        told();
        teller();
        Check.finish(RecordsTest.class);
    }

    private static void went() {
        Town town = new Town();
        BurntOak oak = town.oak;
        town.tell("on 1;", 1);
        Check.thrown("29: no walker", Check.NO_SUCH, () -> oak.went(6, 0, 0, 201, 0));
        Check.thrown("29: no telling", Check.NO_SUCH, () -> oak.went(0, 1, 0, 201, 0));
        Check.thrown("29: no state", Check.NO_SUCH, () -> oak.went(0, 0, 44, 201, 0));
        Check.thrown("29: no place", Check.NO_SUCH, () -> oak.went(0, 0, 0, 201, 12));
        Check.thrown("29: year", Check.ARGUMENT, () -> oak.went(0, 0, 0, 201, 0));
        Check.same("29: they changed nothing", oak.count(6), 0);
        for (int n = 1; n <= 30; n++) {
            Check.same("29: record " + n, oak.went(0, 0, n, 200, n % 12), n);
        }
        Check.same("29: a 31st", oak.went(0, 0, 0, 0, 0), -1);
        Check.thrown("29: full, and year", Check.ARGUMENT, () -> oak.went(0, 0, 0, -1, 0));
        Check.same("38: records", oak.count(6), 30);
    }

    private static void learned() {
        Town town = new Town();
        BurntOak oak = town.oak;
        town.tell("on until farm;", 2);
        town.tell("on 2;", 2);
        town.tell("on until oak;on until farm;", 4);
        Check.same("30: without records all", oak.learned(0, 1), 4095);
        oak.went(0, 0, Town.EAST, 9, 2);
        Check.same("30: to him a farm is an oak", oak.learned(0, 1), 1);
        Check.same("30: an oak could be anything, but the farm is none", oak.learned(0, 0), 0);
        Check.same("30: others have no records", oak.learned(1, 1), 4095);
        oak.went(0, 2, Town.EAST, 9, 4);
        Check.same("30: oak keeps its own set beside", oak.learned(0, 1), 1);
        oak.went(0, 0, Town.EAST, 9, 3);
        Check.same("30: that fits with no kind", oak.learned(0, 1), 0);
        oak.went(1, 1, Town.EAST, 9, 2);
        Check.same("30: a telling without the name, as told", oak.learned(1, 1), 4095);
        oak.went(1, 1, Town.EAST, 9, 3);
        Check.same("30: a telling without the name, not as told", oak.learned(1, 1), 0);
        oak.went(4, 0, Town.EAST, 9, 2);
        Check.same("30: what he doesn't notice it can't be", oak.learned(4, 1), 0);
        oak.went(5, 0, Town.EAST, 9, 2);
        Check.same("30: in place of its set", oak.learned(5, 1), 1);
        Check.same("10: the tongue is as it was", oak.means(1, 1, 3), 3);
        Check.thrown("30: no walker", Check.NO_SUCH, () -> oak.learned(6, 0));
        Check.thrown("30: no walker -1", Check.NO_SUCH, () -> oak.learned(-1, 0));
        Check.thrown("30: no name 12", Check.NO_SUCH, () -> oak.learned(0, 12));
        Check.thrown("30: no name -1", Check.NO_SUCH, () -> oak.learned(0, -1));
    }

    private static void learnedByYears() {
        Town town = new Town();
        BurntOak oak = town.oak;
        town.tell("on until gate or loose;", 2);
        oak.mark(3, 8, false, 60, 60);
        oak.went(2, 0, Town.EAST, 75, 3);
        Check.same("30: the inn stood there then", oak.learned(2, 7), 1 << 6);
        oak.went(2, 0, Town.EAST, 75, 0);
        Check.same("30: among the ends, with others", oak.learned(2, 7), 1 << 6);
        oak.went(2, 0, Town.EAST, 60, 3);
        Check.same("30: inn or stone, but the inn stood in both", oak.learned(2, 7), 1 << 6);
        oak.went(3, 0, 0, 60, 3);
        Check.same("30: inn or stone", oak.learned(3, 7), 1 << 6 | 1 << 8);
        oak.ends(false, 4, 59);
        Check.same("30: by what is known of the ground now", oak.learned(3, 7), 1 << 8);
    }

    private static void learnedBySeeing() {
        Town town = new Town();
        BurntOak oak = town.oak;
        town.tell("on 4;see gate;", 4);
        town.tell("on 1 or on 2 or on 4;over gate;see stone or see gate;", 4);
        oak.went(1, 0, Town.EAST, 9, 4);
        Check.same("30: the oak there, the tall pond and the tall church beside", oak.learned(1, 7), 1 | 1 << 4 | 1 << 5);
        oak.went(1, 1, Town.EAST, 9, 4);
        Check.same("30: of these only the church is ahead, too", oak.learned(1, 7), 1 << 5);
        Check.same("30: a stone may be anything, if a gate is none", oak.learned(1, 8), 0);
    }

    private static void told() {
        BurntOak oak = new Town().oak;
        Town.tell(oak, "on 1;", 1, 3);
        Town.tell(oak, "on 2;", 2, 3);
        Town.tell(oak, "on 2;", 2, 9);
        oak.went(0, 0, Town.EAST, 9, 1);
        oak.went(1, 1, Town.EAST, 9, 1);
        oak.went(2, 1, Town.EAST, 9, 2);
        Check.same("32: all of teller 3", oak.told(3, true), 3);
        Check.same("32: at their goals", oak.told(3, false), 2);
        Check.same("32: none of teller 9", oak.told(9, true), 0);
        Check.same("32: none of teller 0", oak.told(0, false), 0);
        Check.thrown("32: teller 10", Check.ARGUMENT, () -> oak.told(10, true));
        Check.thrown("32: teller -1", Check.ARGUMENT, () -> oak.told(-1, false));
    }

    private static void teller() {
        BurntOak oak = new Town().oak;
        for (int teller = 0; teller < 10; teller++) {
            Town.tell(oak, "on 1;", 1, teller);
        }
        Check.same("31: without records", oak.teller(), -1);
        oak.went(0, 7, Town.EAST, 9, 2);
        Check.same("31: the only one, though it went wrong", oak.teller(), 7);
        oak.went(0, 4, Town.EAST, 9, 2);
        Check.same("31: of like ones the least", oak.teller(), 4);
        oak.went(0, 7, Town.EAST, 9, 1);
        Check.same("31: a half is more than nothing", oak.teller(), 7);
        oak.went(0, 9, Town.EAST, 9, 1);
        Check.same("31: all is more than a half", oak.teller(), 9);
        oak.went(0, 9, Town.EAST, 9, 2);
        Check.same("31: a half and a half", oak.teller(), 7);
        oak.went(0, 9, Town.EAST, 9, 1);
        Check.same("31: two thirds", oak.teller(), 9);
        oak.went(0, 2, Town.EAST, 9, 1);
        oak.went(0, 2, Town.EAST, 9, 1);
        oak.went(0, 2, Town.EAST, 9, 2);
        Check.same("31: two thirds and two thirds", oak.teller(), 2);
        oak.went(0, 2, Town.EAST, 9, 2);
        Check.same("31: two of four", oak.teller(), 9);
    }
}
