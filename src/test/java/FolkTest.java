/** Promises 9 to 13. */
public final class FolkTest {
    private FolkTest() {
    }

    public static void main(String[] args) {
        tongues();
        means();
        walkers();
        stands();
        seen();
        standsByYears();
        worth();
        Check.finish(FolkTest.class);
    }

    private static void tongues() {
        BurntOak oak = new BurntOak();
        for (int n = 0; n < 6; n++) {
            Check.same("9: tongue " + n, oak.tongue(), n);
        }
        Check.same("9: a seventh", oak.tongue(), -1);
        Check.same("38: tongues", oak.count(3), 6);
    }

    private static void means() {
        BurntOak oak = new BurntOak();
        oak.tongue();
        oak.tongue();
        for (int name = 0; name < 12; name++) {
            Check.same("10: at first", oak.means(1, name, 4095), 1 << name);
            Check.same("10: then", oak.means(1, name, 0), 4095);
            Check.same("10: another tongue", oak.means(0, name, 1 << name), 1 << name);
        }
        Check.thrown("10: no tongue", Check.NO_SUCH, () -> oak.means(2, 0, -1));
        Check.thrown("10: no tongue -1", Check.NO_SUCH, () -> oak.means(-1, 0, 0));
        Check.thrown("10: no name 12", Check.NO_SUCH, () -> oak.means(0, 12, -1));
        Check.thrown("10: no name -1", Check.NO_SUCH, () -> oak.means(0, -1, 0));
        Check.thrown("10: set 4096", Check.ARGUMENT, () -> oak.means(0, 3, 4096));
        Check.thrown("10: set -1", Check.ARGUMENT, () -> oak.means(0, 3, -1));
        Check.same("10: they changed nothing", oak.means(0, 3, 0), 8);
    }

    private static void walkers() {
        BurntOak oak = new BurntOak();
        Check.thrown("11: no tongue yet", Check.NO_SUCH, () -> oak.walker(0, -1, false, false, 0));
        oak.tongue();
        Check.thrown("11: no tongue -1", Check.NO_SUCH, () -> oak.walker(-1, 0, false, false, 1));
        Check.thrown("11: set -1", Check.ARGUMENT, () -> oak.walker(0, -1, false, false, 1));
        Check.thrown("11: set 4096", Check.ARGUMENT, () -> oak.walker(0, 4096, false, false, 1));
        Check.thrown("11: patience 0", Check.ARGUMENT, () -> oak.walker(0, 0, false, false, 0));
        Check.thrown("11: patience 21", Check.ARGUMENT, () -> oak.walker(0, 0, false, false, 21));
        Check.same("11: they changed nothing", oak.count(4), 0);
        for (int n = 0; n < 8; n++) {
            Check.same("11: walker " + n, oak.walker(0, n == 0 ? 0 : 4095, false, true, n == 1 ? 20 : 1), n);
        }
        Check.same("11: a ninth", oak.walker(0, 0, false, false, 1), -1);
        Check.thrown("11: full, and patience", Check.ARGUMENT, () -> oak.walker(0, 0, false, false, 21));
        Check.same("38: walkers", oak.count(4), 8);
    }

    private static void stands() {
        BurntOak oak = new Town().oak;
        Check.so("12: the oak at 2", oak.stands(0, 0, 2, 9, false));
        Check.so("12: no oak at 3", !oak.stands(0, 0, 3, 9, false));
        Check.so("12: no farm at 2", !oak.stands(0, 1, 2, 9, false));
        Check.so("12: he notices no oaks", !oak.stands(4, 0, 2, 9, false));
        Check.so("12: but he notices ponds", oak.stands(4, 4, 10, 9, false));
        Check.so("12: a farm by another tongue", oak.stands(5, 1, 2, 9, false));
        Check.so("12: which is an oak, too", oak.stands(5, 0, 2, 9, false));
        oak.means(1, 0, 0);
        Check.so("12: that means nothing now", !oak.stands(5, 0, 2, 9, false));
        Check.so("12: others speak on", oak.stands(0, 0, 2, 9, false));
        Check.thrown("12: no walker", Check.NO_SUCH, () -> oak.stands(6, 0, 0, 201, false));
        Check.thrown("12: no name", Check.NO_SUCH, () -> oak.stands(0, 12, 0, 201, false));
        Check.thrown("12: no name -1", Check.NO_SUCH, () -> oak.stands(0, -1, 0, 0, false));
        Check.thrown("12: no place", Check.NO_SUCH, () -> oak.stands(0, 0, 12, 201, false));
        Check.thrown("12: year 201", Check.ARGUMENT, () -> oak.stands(0, 0, 0, 201, false));
        Check.thrown("12: year -1", Check.ARGUMENT, () -> oak.stands(0, 0, 0, -1, true));
    }

    private static void seen() {
        BurntOak oak = new Town().oak;
        Check.so("12: where it stands it is seen", oak.stands(0, 0, 2, 9, true));
        Check.so("12: a low one is not seen from beside", !oak.stands(0, 0, 1, 9, true));
        Check.so("12: the tall pond from 4", oak.stands(0, 4, 4, 9, true));
        Check.so("12: it doesn't stand there", !oak.stands(0, 4, 4, 9, false));
        Check.so("12: not from 3", !oak.stands(0, 4, 3, 9, true));
        Check.so("12: the tall church from 4", oak.stands(0, 5, 4, 9, true));
        Check.so("12: another kind's height is no help", !oak.stands(0, 0, 10, 9, true) && !oak.stands(0, 6, 4, 75, true));
        oak.ends(true, 9, 20);
        Check.so("12: in the way's last year", oak.stands(0, 4, 4, 20, true));
        Check.so("12: the way is gone", !oak.stands(0, 4, 4, 21, true));
        Check.so("12: at its place it is seen still", oak.stands(0, 4, 10, 21, true));
    }

    private static void standsByYears() {
        BurntOak oak = new Town().oak;
        int[] years = {49, 50, 100, 101};
        for (int year : years) {
            Check.same("12: the inn in " + year, oak.stands(0, 6, 3, year, false) ? 1 : 0, year >= 50 && year <= 100 ? 1 : 0);
        }
        oak.mark(3, 6, false, 101, 101);
        Check.so("12: another inn", oak.stands(0, 6, 3, 101, false));
        oak.ends(false, 4, 60);
        Check.so("12: it ended", !oak.stands(0, 6, 3, 61, false) && oak.stands(0, 6, 3, 60, false));
    }

    private static void worth() {
        BurntOak oak = new Town().oak;
        Check.same("13: all but one know oaks", oak.worth(0, 63, 9, 0), 5);
        Check.same("13: of a set", oak.worth(0, 0b110001, 9, 0), 2);
        Check.same("13: of none", oak.worth(0, 0, 9, 0), 0);
        Check.same("13: one oak more", oak.worth(0, 63, 9, 1), 1);
        Check.same("13: no other pond", oak.worth(2, 63, 9, 1), 0);
        Check.same("13: the inn isn't there", oak.worth(4, 63, 49, 0), -1);
        Check.same("13: so there are no others", oak.worth(4, 63, 101, 1), -1);
        Check.same("13: it is", oak.worth(4, 63, 100, 0), 6);
        oak.means(0, 6, 0);
        Check.same("13: no name for it in tongue 0", oak.worth(4, 63, 100, 0), 1);
        oak.means(0, 11, 64);
        Check.same("13: some name for it", oak.worth(4, 63, 100, 0), 6);
        oak.mark(0, 0, false, 20, 30);
        Check.same("13: only those there are then", oak.worth(1, 1, 19, 1), 1);
        Check.same("13: two others", oak.worth(1, 1, 20, 1), 2);
        Check.thrown("13: no mark", Check.NO_SUCH, () -> oak.worth(6, 64, 201, 2));
        Check.thrown("13: no mark -1", Check.NO_SUCH, () -> oak.worth(-1, 0, 0, 0));
        Check.thrown("13: no walker 6", Check.ARGUMENT, () -> oak.worth(0, 64, 9, 0));
        Check.thrown("13: set -1", Check.ARGUMENT, () -> oak.worth(0, -1, 9, 0));
        Check.thrown("13: what 2", Check.ARGUMENT, () -> oak.worth(0, 1, 9, 2));
        Check.thrown("13: what -1", Check.ARGUMENT, () -> oak.worth(0, 1, 9, -1));
        Check.thrown("13: year", Check.ARGUMENT, () -> oak.worth(0, 1, 201, 0));
        Check.thrown("13: what, though it isn't there", Check.ARGUMENT, () -> oak.worth(4, 1, 0, 2));
    }
}
