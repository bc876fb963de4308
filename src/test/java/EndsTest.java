/** Promises 19 to 28. */
public final class EndsTest {
    private EndsTest() {
    }

    public static void main(String[] args) {
        holds();
        ends();
        right();
        odds();
        oddsOverSayings();
        oddsOfFewParts();
        parts();
        hangs();
        years();
        yearsInStretches();
        two();
        ask();
        askShares();
        shortest();
        shortestOfSeveral();
        shortestInThree();
        Check.finish(EndsTest.class);
    }

    private static void holds() {
        Town town = new Town();
        BurntOak oak = town.oak;
        town.tell("on 1;left;on 1;loose;", 0);
        town.tell("", 0);
        town.tell("on 6;loose;", 0);
        town.tell("on 1;on 1;", 0);
        Check.same("19: till the dead end", oak.holds(0, 0, Town.EAST, 9), 2);
        Check.same("19: of no sayings", oak.holds(1, 0, Town.EAST, 9), 0);
        Check.same("19: not at all", oak.holds(2, 0, Town.EAST, 9), 0);
        Check.same("19: to the end", oak.holds(3, 0, Town.EAST, 9), 2);
        Check.thrown("19: no telling", Check.NO_SUCH, () -> oak.holds(4, 0, 0, 201));
        Check.thrown("19: no walker", Check.NO_SUCH, () -> oak.holds(0, 6, 0, 201));
        Check.thrown("19: no state", Check.NO_SUCH, () -> oak.holds(0, 0, 44, 201));
        Check.thrown("19: year", Check.ARGUMENT, () -> oak.holds(0, 0, 0, 201));
    }

    private static void ends() {
        Town town = new Town();
        BurntOak oak = town.oak;
        town.tell("loose or left;loose or back;", 0);
        town.tell("on 6;", 0);
        Check.same("18: four states", oak.leads(0, 0, 0, 9, 2, -1), 4);
        int[] due = {3, 0, 1, 6, -1};
        for (int i = -1; i < 4; i++) {
            Check.same("20: end " + i, oak.end(0, 0, 0, 9, i), due[i + 1]);
        }
        Check.same("20: below NONE", oak.end(0, 0, 0, 9, -2), -1);
        Check.same("20: none", oak.end(1, 0, Town.EAST, 9, -1), 0);
        Check.same("20: of none", oak.end(1, 0, Town.EAST, 9, 0), -1);
        Check.thrown("20: no telling", Check.NO_SUCH, () -> oak.end(2, 0, 0, 201, 0));
        Check.thrown("20: no walker", Check.NO_SUCH, () -> oak.end(0, -1, 0, 201, 0));
        Check.thrown("20: no state", Check.NO_SUCH, () -> oak.end(0, 0, -1, 201, 0));
        Check.thrown("20: year", Check.ARGUMENT, () -> oak.end(0, 0, 0, -1, 0));
    }

    private static void right() {
        Town town = new Town();
        BurntOak oak = town.oak;
        town.tell("on 1;", 1);
        town.tell("on 1 or on 2;", 1);
        town.tell("loose or left;back or loose;see farm or on 1;", 2);
        town.tell("left;", 6);
        Check.so("21: it is", oak.right(0, 0, Town.EAST, 9));
        Check.so("21: from elsewhere it isn't", !oak.right(0, 0, 0, 9));
        Check.so("21: one end too many", !oak.right(1, 0, Town.EAST, 9));
        Check.so("21: no end", !oak.right(3, 0, Town.EAST, 9));
        Check.so("21: for him who turns it isn't", oak.right(3, 0, 0, 9) && !oak.right(3, 1, 0, 9));
        int nothing = town.tell("", 1);
        Check.so("21: nothing told where one is", oak.right(nothing, 0, 0, 9) && !oak.right(nothing, 0, 1, 9));
        Check.thrown("21: no telling", Check.NO_SUCH, () -> oak.right(-1, 0, 0, 201));
        Check.thrown("21: no walker", Check.NO_SUCH, () -> oak.right(0, 6, 0, 201));
        Check.thrown("21: no state", Check.NO_SUCH, () -> oak.right(0, 0, 44, 201));
        Check.thrown("21: year", Check.ARGUMENT, () -> oak.right(0, 0, 0, 201));
    }

    private static void odds() {
        Town town = new Town();
        BurntOak oak = town.oak;
        town.tell("on 1;", 0);
        town.tell("left or right or on 1;", 0);
        town.tell("on 1 or on 1 or left;", 0);
        town.tell("", 0);
        Check.same("22: half", oak.odds(0, 0, 22, 9, 0), 500000);
        Check.same("22: the other half", oak.odds(0, 0, 22, 9, 2), 500000);
        Check.same("22: elsewhere", oak.odds(0, 0, 22, 9, 1), 0);
        Check.same("22: what is left goes to the least state", oak.odds(1, 0, 4, 9, 3), 333334);
        Check.same("22: a third", oak.odds(1, 0, 4, 9, 7), 333333);
        Check.same("22: a third", oak.odds(1, 0, 4, 9, 8), 333333);
        Check.same("22: to one state by two words", oak.odds(2, 0, 4, 9, 3), 500000);
        Check.same("22: nothing told", oak.odds(3, 0, 4, 9, 2), 1000000);
        Check.thrown("22: no telling", Check.NO_SUCH, () -> oak.odds(4, 0, 0, 201, 0));
        Check.thrown("22: no walker", Check.NO_SUCH, () -> oak.odds(0, 6, 0, 201, 0));
        Check.thrown("22: no state", Check.NO_SUCH, () -> oak.odds(0, 0, 44, 201, 0));
        Check.thrown("22: no place", Check.NO_SUCH, () -> oak.odds(0, 0, 0, 201, 12));
        Check.thrown("22: year", Check.ARGUMENT, () -> oak.odds(0, 0, 0, 201, 0));
    }

    private static void oddsOverSayings() {
        Town town = new Town();
        BurntOak oak = town.oak;
        town.tell("left or on 1;on 1;", 0);
        Check.same("22: half is lost in a dead end", oak.odds(0, 0, 4, 9, 4), 500000);
        Check.same("22: and is nowhere", oak.odds(0, 0, 4, 9, 7), 0);
        // From 4: 8 (333334), 24, 28 (333333 each); then each stays or goes back to 2; then 2 and on.
        town.tell("left or right or on 1;loose or back;", 0);
        Check.same("22: 166667 + 0", oak.odds(1, 0, 4, 9, 3), 166667);
        Check.same("22: 166667 of 333333", oak.odds(1, 0, 4, 9, 7), 166667);
        Check.same("22: 166667 + 166666 + 166666", oak.odds(1, 0, 4, 9, 2), 166667 + 166666 + 166666);
        // Parts of two states come together at one: 22 leads to 2 and 4; from 2 none; from 4 on to 8.
        town.tell("on 1;loose or on 1;", 0);
        Check.same("22: a state without ON keeps its parts", oak.odds(2, 0, 22, 9, 0), 500000);
        Check.same("22: a quarter", oak.odds(2, 0, 22, 9, 3), 250000);
        // Fewer parts than states: 1,000,000 by 4 ten times over; all that isn't lost adds up.
        town.tell("on 1 or on 2 or on 3 or loose;loose or on 1;loose or back;loose or left or right;", 0);
        int sum = 0;
        for (int p = 0; p < 12; p++) {
            sum += oak.odds(3, 0, Town.EAST, 9, p);
        }
        Check.same("22: all together", sum, 1000000);
    }

    /** 38 ways ahead, of which only the first leads round and back: what comes round grows less, down to one part. */
    private static void oddsOfFewParts() {
        BurntOak oak = new BurntOak();
        oak.place(50, 10);
        oak.place(50, 0);
        for (int n = 0; n < 38; n++) {
            oak.place(2 * n, 50);
            oak.way(0, 2 + n, 0, 1, 0, 200);
        }
        oak.way(2, 1, 0, 1, 0, 200);
        oak.way(1, 0, 0, 1, 0, 200);
        oak.tongue();
        oak.walker(0, 0, false, false, 2);
        StringBuilder text = new StringBuilder();
        int[] due = {26316, 693, 19, 1, 1};
        for (int round = 0; round < 5; round++) {
            text.append("left or right or on 1;");
            int forks = Town.tell(oak, text.toString(), 0, 0);
            Check.same("22: to the last way in round " + round, oak.odds(forks, 0, 156, 0, 39),
                    round == 0 ? 26315 : round == 1 ? 692 : round == 2 ? 18 : 0);
            text.append("on 2;");
            int back = Town.tell(oak, text.toString(), 0, 0);
            Check.same("22: round and back in round " + round, oak.odds(back, 0, 156, 0, 0), due[round]);
        }
    }

    private static void parts() {
        Town town = new Town();
        BurntOak oak = town.oak;
        town.tell("left or right or on 1;", 3);
        town.tell("on 2;", 2);
        town.tell("on 1;", 1);
        town.tell("on 4;", 4);
        town.tell("on 2 or on 4;", 4);
        town.tell("on 6;", 4);
        Check.same("23: by the inn", oak.parts(0, 0, 4, 75), 6);
        Check.same("23: without the inn", oak.parts(0, 0, 4, 9), -1);
        Check.same("23: right already, and an oak", oak.parts(1, 0, Town.EAST, 9), 0);
        Check.same("23: right already, but nothing to see", oak.parts(2, 0, Town.EAST, 9), -1);
        Check.same("23: the least of several", oak.parts(3, 0, Town.EAST, 9), 0);
        Check.same("23: who notices no oaks sees the pond", oak.parts(3, 4, Town.EAST, 9), 4);
        Check.same("23: an oak at both is no help, the pond is", oak.parts(4, 0, Town.EAST, 9), 4);
        Check.same("23: no ends", oak.parts(5, 0, Town.EAST, 9), -1);
        town.tell("on 1;back;on 1;back;loose;loose;loose;loose;loose;on 1;", 2);
        Check.same("23: behind ten sayings", oak.parts(6, 0, 0, 9), 0);
        Check.thrown("23: no telling", Check.NO_SUCH, () -> oak.parts(7, 0, 0, 201));
        Check.thrown("23: no walker", Check.NO_SUCH, () -> oak.parts(0, 6, 0, 201));
        Check.thrown("23: no state", Check.NO_SUCH, () -> oak.parts(0, 0, 44, 201));
        Check.thrown("23: year", Check.ARGUMENT, () -> oak.parts(0, 0, 0, 201));
    }

    private static void hangs() {
        Town town = new Town();
        BurntOak oak = town.oak;
        town.tell("on 1;", 3);
        Check.same("24: right from one of four", oak.hangs(0, 0, 2, 9, true), 1);
        Check.same("24: wrong from three", oak.hangs(0, 0, 2, 9, false), 3);
        oak.ends(true, 6, 99);
        Check.same("24: in its last year", oak.hangs(0, 0, 2, 99, false), 3);
        Check.same("24: only of ways there are", oak.hangs(0, 0, 2, 100, false), 2);
        oak.place(1, 1);
        Check.same("24: a place without ways", oak.hangs(0, 0, 12, 9, false), 0);
        Check.thrown("24: no telling", Check.NO_SUCH, () -> oak.hangs(1, 0, 0, 201, true));
        Check.thrown("24: no walker", Check.NO_SUCH, () -> oak.hangs(0, 6, 0, 201, true));
        Check.thrown("24: no place", Check.NO_SUCH, () -> oak.hangs(0, 0, 13, 201, true));
        Check.thrown("24: year", Check.ARGUMENT, () -> oak.hangs(0, 0, 0, 201, true));
    }

    private static void years(Town town, int telling, int many, int first, int last) {
        Check.same("25: how many years", town.oak.years(telling, 0, Town.EAST, 0), many);
        Check.same("25: the first", town.oak.years(telling, 0, Town.EAST, 1), first);
        Check.same("25: the last", town.oak.years(telling, 0, Town.EAST, 2), last);
    }

    private static void years() {
        Town town = new Town();
        BurntOak oak = town.oak;
        years(town, town.tell("on until inn;", 3), 51, 50, 100);
        years(town, town.tell("on until inn;", 4), 0, -1, -1);
        years(town, town.tell("on 1;", 1), 201, 0, 200);
        oak.mark(3, 6, false, 150, 160);
        years(town, 0, 62, 50, 160);
        oak.ends(true, 0, 155);
        years(town, 0, 57, 50, 155);
        years(town, 2, 156, 0, 155);
        Check.thrown("25: no telling", Check.NO_SUCH, () -> oak.years(3, 0, 0, 3));
        Check.thrown("25: no walker", Check.NO_SUCH, () -> oak.years(0, 6, 0, 3));
        Check.thrown("25: no state", Check.NO_SUCH, () -> oak.years(0, 0, 44, 3));
        Check.thrown("25: what 3", Check.ARGUMENT, () -> oak.years(0, 0, 0, 3));
        Check.thrown("25: what -1", Check.ARGUMENT, () -> oak.years(0, 0, 0, -1));
    }

    private static void yearsInStretches() {
        Town town = new Town();
        // In every tenth year, and then alone, a mill stands at the corner: 20 years in all.
        for (int n = 0; n < 20; n++) {
            town.oak.mark(1, 9, false, 10 * n, 10 * n);
        }
        years(town, town.tell("on until mill;", 1), 20, 0, 190);
        Town late = new Town();
        late.oak.mark(1, 9, false, 200, 200);
        years(late, late.tell("on until mill;", 1), 1, 200, 200);
        Town early = new Town();
        early.oak.mark(1, 9, false, 0, 0);
        years(early, early.tell("on until mill;", 1), 1, 0, 0);
    }

    private static void two() {
        Town town = new Town();
        BurntOak oak = town.oak;
        town.tell("on 1;", 0);
        town.tell("on 2;", 0);
        town.tell("left or right or on 1;", 0);
        town.tell("on 6;", 0);
        Check.same("26: one place of both", oak.two(0, 22, 1, Town.EAST, 0, 9, 0), 1);
        Check.same("26: half by all", oak.two(0, 22, 1, Town.EAST, 0, 9, 1), 500000);
        Check.same("26: with itself", oak.two(0, 22, 0, 22, 0, 9, 0), 2);
        Check.same("26: a quarter and a quarter", oak.two(0, 22, 0, 22, 0, 9, 1), 500000);
        Check.same("26: each rounded down", oak.two(2, 4, 2, 4, 0, 9, 1), 111111 + 111110 + 111110);
        Check.same("26: none in common", oak.two(0, Town.EAST, 1, Town.EAST, 0, 9, 0), 0);
        Check.same("26: none in common, odds", oak.two(0, Town.EAST, 1, Town.EAST, 0, 9, 1), 0);
        Check.same("26: one leads nowhere", oak.two(0, Town.EAST, 3, Town.EAST, 0, 9, 0), 0);
        Check.thrown("26: no telling one", Check.NO_SUCH, () -> oak.two(4, 0, 0, 0, 0, 201, 2));
        Check.thrown("26: no state from", Check.NO_SUCH, () -> oak.two(0, 44, 0, 0, 0, 201, 2));
        Check.thrown("26: no telling other", Check.NO_SUCH, () -> oak.two(0, 0, 4, 0, 0, 201, 2));
        Check.thrown("26: no state at", Check.NO_SUCH, () -> oak.two(0, 0, 0, 44, 0, 201, 2));
        Check.thrown("26: no walker", Check.NO_SUCH, () -> oak.two(0, 0, 0, 0, 6, 201, 2));
        Check.thrown("26: year", Check.ARGUMENT, () -> oak.two(0, 0, 0, 0, 0, 201, 0));
        Check.thrown("26: what 2", Check.ARGUMENT, () -> oak.two(0, 0, 0, 0, 0, 9, 2));
        Check.thrown("26: what -1", Check.ARGUMENT, () -> oak.two(0, 0, 0, 0, 0, 9, -1));
    }

    private static void ask(BurntOak oak, int telling, int walker, int teller, int price, int k, int loss) {
        String what = "27: telling " + telling + ", " + walker + " asks " + teller + " for " + price;
        Check.same(what, oak.ask(telling, walker, teller, Town.EAST, 9, price, false), k);
        Check.same(what + ", loss", oak.ask(telling, walker, teller, Town.EAST, 9, price, true), loss);
    }

    private static void ask() {
        Town town = new Town();
        BurntOak oak = town.oak;
        town.tell("on 2;left;", 7);
        town.tell("on 2;left;loose;", 7);
        town.tell("on 2;left;loose;loose;", 7);
        town.tell("on 3;loose;", 3);
        town.tell("", 0);
        ask(oak, 0, 1, 0, 0, 0, 1000000);
        ask(oak, 1, 1, 0, 300000, 2, 300000);
        ask(oak, 1, 1, 0, 1000000, 0, 1000000);
        ask(oak, 1, 1, 0, 999999, 2, 999999);
        ask(oak, 2, 1, 0, 0, 2, 0);
        ask(oak, 1, 0, 0, 0, 0, 0);
        ask(oak, 1, 0, 1, 0, 0, 0);
        ask(oak, 3, 3, 0, 5, 1, 5);
        ask(oak, 3, 3, 3, 5, 0, 1000000);
        ask(oak, 3, 0, 3, 5, 0, 0);
        ask(oak, 4, 0, 1, 5, 0, 0);
        Check.thrown("27: no telling", Check.NO_SUCH, () -> oak.ask(5, 0, 0, 0, 201, -1, true));
        Check.thrown("27: no walker", Check.NO_SUCH, () -> oak.ask(0, 6, 0, 0, 201, -1, true));
        Check.thrown("27: no teller", Check.NO_SUCH, () -> oak.ask(0, 0, 6, 0, 201, -1, true));
        Check.thrown("27: no state", Check.NO_SUCH, () -> oak.ask(0, 0, 0, 44, 201, -1, true));
        Check.thrown("27: year", Check.ARGUMENT, () -> oak.ask(0, 0, 0, 0, 201, 0, true));
        Check.thrown("27: price -1", Check.ARGUMENT, () -> oak.ask(0, 0, 0, 0, 9, -1, true));
        Check.thrown("27: price 1000001", Check.ARGUMENT, () -> oak.ask(0, 0, 0, 0, 9, 1000001, true));
    }

    private static void askShares() {
        Town town = new Town();
        BurntOak oak = town.oak;
        // Walker 4 sees no oak, so he doesn't get on; as walker 0 the teller comes to 2, and on to three states.
        town.tell("on until oak;left or right or on 1;loose;", 3);
        ask(oak, 0, 4, 0, 0, 1, 666666);
        town.tell("on until oak;left or right or on 1;loose;", 7);
        ask(oak, 1, 4, 0, 0, 1, 666667);
        // Behind 2 the parts begin in the three states alike.
        town.tell("on until oak;left or right or on 1;on 1 or see farm;", 4);
        ask(oak, 2, 4, 0, 100, 1, 666766);
        town.tell("on until oak;left or right or on 1;loose;see oak or see inn;", 3);
        ask(oak, 3, 4, 0, 0, 0, 1000000);
        Check.same("27: in a year with the inn", oak.ask(3, 4, 0, Town.EAST, 75, 0, true), 666666);
    }

    private static void shortest(BurntOak oak, int walkers, int place, int most, String due) {
        int many = oak.shortest(walkers, Town.EAST, place, 9, most, -1);
        StringBuilder row = new StringBuilder();
        for (int k = 0; k < many; k++) {
            row.append(k == 0 ? "" : " ").append(oak.shortest(walkers, Town.EAST, place, 9, most, k));
        }
        String what = "28: of " + walkers + " to " + place + " in " + most;
        Check.same(what, many < 0 ? "none" : row.toString(), due);
        Check.same(what + ", behind the last", oak.shortest(walkers, Town.EAST, place, 9, most, Math.max(many, 0)), -1);
        Check.same(what + ", below NONE", oak.shortest(walkers, Town.EAST, place, 9, most, -2), -1);
    }

    private static void shortest() {
        BurntOak oak = new Town().oak;
        shortest(oak, 1, 1, 1, "0");
        shortest(oak, 1, 2, 3, "3");
        shortest(oak, 1, 3, 3, "15");
        shortest(oak, 1, 5, 3, "8");
        shortest(oak, 1, 6, 3, "27");
        shortest(oak, 1, 7, 3, "29");
        shortest(oak, 1, 8, 3, "28");
        shortest(oak, 1, 9, 3, "30");
        shortest(oak, 1, 4, 1, "none");
        shortest(oak, 1, 4, 3, "3 3");
        shortest(oak, 1, 11, 3, "3 30");
        shortest(oak, 4, 11, 3, "30");
        Check.thrown("28: no state", Check.NO_SUCH, () -> oak.shortest(0, 44, 0, 201, 0, 0));
        Check.thrown("28: no place", Check.NO_SUCH, () -> oak.shortest(0, 0, 12, 201, 0, 0));
        Check.thrown("28: year", Check.ARGUMENT, () -> oak.shortest(1, 0, 0, 201, 1, 0));
        Check.thrown("28: an empty set", Check.ARGUMENT, () -> oak.shortest(0, 0, 0, 9, 1, 0));
        Check.thrown("28: no walker 6", Check.ARGUMENT, () -> oak.shortest(65, 0, 0, 9, 1, 0));
        Check.thrown("28: set -1", Check.ARGUMENT, () -> oak.shortest(-1, 0, 0, 9, 1, 0));
        Check.thrown("28: most 0", Check.ARGUMENT, () -> oak.shortest(1, 0, 0, 9, 0, 0));
        Check.thrown("28: most 4", Check.ARGUMENT, () -> oak.shortest(1, 0, 0, 9, 4, 0));
    }

    private static void shortestOfSeveral() {
        BurntOak oak = new Town().oak;
        shortest(oak, 0b101, 11, 3, "15 28");
        shortest(oak, 0b11, 7, 3, "none");
        shortest(oak, 0b10001, 2, 3, "0 0");
        shortest(oak, 0b100001, 2, 3, "3");
        // Patience 2: the church is too far for him at once, past the second oak it isn't.
        shortest(oak, 0b1001, 5, 1, "none");
        shortest(oak, 0b1001, 5, 3, "3 15");
        // Whoever takes left as right: both come to the road's end by the church alone.
        shortest(oak, 0b11, 5, 1, "8");
    }

    private static void shortestInThree() {
        BurntOak oak = new Town().oak;
        // To 4 without noticing oaks: by steps alone it would be four; the church is behind it.
        shortest(oak, 0b10000, 3, 2, "none");
        shortest(oak, 0b10000, 3, 3, "0 0 0");
        shortest(oak, 0b10000, 4, 3, "none");
        shortest(oak, 0b10001, 3, 3, "0 0 0");
        BurntOak late = new Town().oak;
        late.mark(3, 2, false, 9, 9);
        shortest(late, 0b10000, 4, 3, "17");
    }
}
