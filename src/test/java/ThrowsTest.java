import java.util.ArrayList;
import java.util.List;

/** Of several throws the one told first comes, and a call that throws changes nothing. */
public final class ThrowsTest {
    private record Thrown(String what, Class<? extends RuntimeException> due, Check.Call call) {
    }

    private ThrowsTest() {
    }

    public static void main(String[] args) {
        Town town = new Town();
        BurntOak oak = town.oak;
        town.tell("on until oak;left or right;", 7);
        oak.went(0, 0, Town.EAST, 9, 7);
        Town.tell(oak, "on 0;", 0, 0);
        Town.feed(oak, "left;right;");
        oak.tray(0, 0, 2);
        oak.tray(1, 0, 11);
        for (Thrown t : ground(oak)) {
            changesNothing(oak, t);
        }
        for (Thrown t : folk(oak)) {
            changesNothing(oak, t);
        }
        for (Thrown t : tellings(oak)) {
            changesNothing(oak, t);
        }
        for (Thrown t : rest(oak)) {
            changesNothing(oak, t);
        }
        oak.tray(2, 0, 1);
        Check.same("the tape is as it was", oak.telling(11, 0, 0), 1);
        Check.same("tray 0 has two numbers", oak.say(0, 0, 0), 2);
        Check.same("both 0", Town.states(oak, 2, 0, Town.EAST, 9), "4");
        Check.finish(ThrowsTest.class);
    }

    private static void changesNothing(BurntOak oak, Thrown t) {
        String before = Town.all(oak);
        Check.thrown(t.what, t.due, t.call);
        Check.same(t.what + " changes nothing:", Town.all(oak), before);
    }

    private static List<Thrown> ground(BurntOak oak) {
        List<Thrown> all = new ArrayList<>();
        all.add(new Thrown("place(100, 0)", Check.ARGUMENT, () -> oak.place(100, 0)));
        all.add(new Thrown("place(10, 50)", Check.ARGUMENT, () -> oak.place(10, 50)));
        all.add(new Thrown("way(12, 12, ..)", Check.NO_SUCH, () -> oak.way(12, 12, 5, 0, 9, 8)));
        all.add(new Thrown("way(0, 12, ..)", Check.NO_SUCH, () -> oak.way(0, 12, 5, 0, 9, 8)));
        all.add(new Thrown("way(1, 0, ..)", Check.ARGUMENT, () -> oak.way(1, 0, 0, 1, 200, 200)));
        all.add(new Thrown("way(5, 6, ..)", Check.ARGUMENT, () -> oak.way(5, 6, 0, 1, 9, 8)));
        all.add(new Thrown("mark(12, 12, ..)", Check.NO_SUCH, () -> oak.mark(12, 12, true, 9, 8)));
        all.add(new Thrown("mark(0, 0, true, 9, 8)", Check.ARGUMENT, () -> oak.mark(0, 0, true, 9, 8)));
        all.add(new Thrown("ends(true, 11, -1)", Check.NO_SUCH, () -> oak.ends(true, 11, -1)));
        all.add(new Thrown("ends(false, 5, -1)", Check.NO_SUCH, () -> oak.ends(false, 5, -1)));
        all.add(new Thrown("ends(false, 4, 101)", Check.ARGUMENT, () -> oak.ends(false, 4, 101)));
        all.add(new Thrown("ends(true, 0, 201)", Check.ARGUMENT, () -> oak.ends(true, 0, 201)));
        all.add(new Thrown("state(44, 9)", Check.NO_SUCH, () -> oak.state(44, 9)));
        all.add(new Thrown("out(44, 9, 999)", Check.NO_SUCH, () -> oak.out(44, 9, 999)));
        all.add(new Thrown("on(-1, 999, 0)", Check.NO_SUCH, () -> oak.on(-1, 999, 0)));
        return all;
    }

    private static List<Thrown> folk(BurntOak oak) {
        List<Thrown> all = new ArrayList<>();
        all.add(new Thrown("means(2, 0, 9999)", Check.NO_SUCH, () -> oak.means(2, 0, 9999)));
        all.add(new Thrown("means(0, 12, 9999)", Check.NO_SUCH, () -> oak.means(0, 12, 9999)));
        all.add(new Thrown("means(0, 0, 9999)", Check.ARGUMENT, () -> oak.means(0, 0, 9999)));
        all.add(new Thrown("walker(2, -1, .., 0)", Check.NO_SUCH, () -> oak.walker(2, -1, true, true, 0)));
        all.add(new Thrown("walker(0, -1, .., 1)", Check.ARGUMENT, () -> oak.walker(0, -1, true, true, 1)));
        all.add(new Thrown("stands(0, 0, 99, 999)", Check.NO_SUCH, () -> oak.stands(0, 0, 99, 999, true)));
        all.add(new Thrown("worth(5, 999, 999, 9)", Check.NO_SUCH, () -> oak.worth(5, 999, 999, 9)));
        all.add(new Thrown("worth(0, 999, 9, 0)", Check.ARGUMENT, () -> oak.worth(0, 999, 9, 0)));
        return all;
    }

    private static List<Thrown> tellings(BurntOak oak) {
        List<Thrown> all = new ArrayList<>();
        all.add(new Thrown("telling(999, 99, 99)", Check.NO_SUCH, () -> oak.telling(999, 99, 99)));
        all.add(new Thrown("telling(999, 0, 0)", Check.ARGUMENT, () -> oak.telling(999, 0, 0)));
        all.add(new Thrown("telling(5, 0, 99)", Check.ARGUMENT, () -> oak.telling(5, 0, 99)));
        all.add(new Thrown("leads(0, 0, 0, 999, 9, 0)", Check.ARGUMENT, () -> oak.leads(0, 0, 0, 999, 9, 0)));
        all.add(new Thrown("years(0, 0, 0, 9)", Check.ARGUMENT, () -> oak.years(0, 0, 0, 9)));
        all.add(new Thrown("two(0, 0, 0, 0, 9, 999, 9)", Check.NO_SUCH, () -> oak.two(0, 0, 0, 0, 9, 999, 9)));
        all.add(new Thrown("ask(0, 0, 9, 0, 999, -1)", Check.NO_SUCH, () -> oak.ask(0, 0, 9, 0, 999, -1, true)));
        all.add(new Thrown("shortest(0, 0, 99, 999, 9, 0)", Check.NO_SUCH, () -> oak.shortest(0, 0, 99, 999, 9, 0)));
        all.add(new Thrown("shortest(0, 0, 0, 9, 1, 0)", Check.ARGUMENT, () -> oak.shortest(0, 0, 0, 9, 1, 0)));
        return all;
    }

    private static List<Thrown> rest(BurntOak oak) {
        List<Thrown> all = new ArrayList<>();
        all.add(new Thrown("went(0, 0, 0, 999, 99)", Check.NO_SUCH, () -> oak.went(0, 0, 0, 999, 99)));
        all.add(new Thrown("went(0, 0, 0, 999, 0)", Check.ARGUMENT, () -> oak.went(0, 0, 0, 999, 0)));
        all.add(new Thrown("told(10, true)", Check.ARGUMENT, () -> oak.told(10, true)));
        all.add(new Thrown("tray(4, 9, 99)", Check.NO_SUCH, () -> oak.tray(4, 9, 99)));
        all.add(new Thrown("tray(0, 9, 1)", Check.ARGUMENT, () -> oak.tray(0, 9, 1)));
        all.add(new Thrown("write(9, 99, 0)", Check.NO_SUCH, () -> oak.write(9, 99, 0)));
        all.add(new Thrown("write(2, 99, 0)", Check.STATE, () -> oak.write(2, 99, 0)));
        all.add(new Thrown("write(0, 2, 5)", Check.INDEX, () -> oak.write(0, 2, 5)));
        all.add(new Thrown("say(9, 0, 99)", Check.NO_SUCH, () -> oak.say(9, 0, 99)));
        all.add(new Thrown("say(2, 99, 99)", Check.NO_SUCH, () -> oak.say(2, 99, 99)));
        all.add(new Thrown("say(2, 0, 99)", Check.STATE, () -> oak.say(2, 0, 99)));
        all.add(new Thrown("say(1, 0, 0)", Check.ARGUMENT, () -> oak.say(1, 0, 0)));
        all.add(new Thrown("say(0, 0, 99)", Check.ARGUMENT, () -> oak.say(0, 0, 99)));
        all.add(new Thrown("image(3)", Check.NO_SUCH, () -> oak.image(3)));
        all.add(new Thrown("restore(3)", Check.NO_SUCH, () -> oak.restore(3)));
        all.add(new Thrown("restore(0)", Check.STATE, () -> oak.restore(0)));
        return all;
    }
}
